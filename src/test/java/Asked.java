import java.math.BigInteger;
import java.util.Arrays;

/** An object of the class whose answers go to a check, together with the FLAGS that each call raised. */
final class Asked {
    static final int HALF = 0, BRAIN = 1, SINGLE = 2, NARROW = 3;

    final HalfFloats x = new HalfFloats();
    private final Check check;

    Asked(Check check) {
        this.check = check;
    }

    /** A new object with FORMAT 3 of these widths and this KIND. */
    static Asked narrow(Check check, int e, int f, int kind) {
        Asked made = new Asked(check);
        made.due(made.x.format(NARROW, e, f, kind), 1, "format", NARROW, e, f, kind);
        return made;
    }

    /** The PATTERN of FORMAT 2 of a number that it can hold. */
    static int single(double value) {
        if ((float) value != value) {
            throw new IllegalArgumentException("no single: " + value);
        }
        return Float.floatToRawIntBits((float) value);
    }

    /** The state from which the next one is this. */
    static int stateBefore(int next) {
        BigInteger modulus = BigInteger.valueOf(2147483647);
        return BigInteger.valueOf(48271).modInverse(modulus).multiply(BigInteger.valueOf(next)).mod(modulus).intValue();
    }

    void due(long got, long want, String call, int... args) {
        check.due(call + Arrays.toString(args), got, want);
    }

    void flags(int want) {
        check.due("flags() then", x.flags(), want);
    }

    void state(int want) {
        int state = x.seed(1);
        check.due("the state then", state, want);
        x.seed(state);
    }

    void turn(int k, int a, int m, int way, long want, int flags) {
        due(x.turn(k, a, m, way), want, "turn", k, a, m, way);
        flags(flags);
    }

    /** The same number above and below 0: from the other side WAY 3 is WAY 4. */
    void turnBothSides(double value, int way, int want, int flags) {
        int sign = 1 << (x.form(NARROW, 0) + x.form(NARROW, 1));
        int other = way == 3 ? 4 : way == 4 ? 3 : way;
        turn(SINGLE, single(value), NARROW, way, want, flags);
        turn(SINGLE, single(-value), NARROW, other, (want | sign) & 0xFFFFFFFFL, flags);
    }

    void reckon(int how, int a, int b, int k, int way, long want, int flags) {
        due(x.reckon(how, k, a, k, b, k, way), want, "reckon", how, k, a, k, b, k, way);
        flags(flags);
    }

    void fused(int k, int a, int b, int n, int c, int way, long want, int flags) {
        due(x.fused(k, a, b, n, c, way), want, "fused", k, a, b, n, c, way);
        flags(flags);
    }

    void sum(int r, int how, int n, int way, long want, int flags) {
        due(x.sum(r, how, n, way), want, "sum", r, how, n, way);
        flags(flags);
    }

    void dot(int c, int m, int n, int way, long want, int flags) {
        due(x.dot(c, m, n, way), want, "dot", c, m, n, way);
        flags(flags);
    }

    void element(int e, int i, long want, int flags) {
        due(x.element(e, i), want, "element", e, i);
        flags(flags);
    }

    void part(int k, int a, int... want) {
        for (int what = 0; what < want.length; what++) {
            due(x.part(k, a, what), want[what], "part", k, a, what);
        }
    }

    void at(int r, long... want) {
        due(x.count(r), want.length, "count", r);
        for (int i = 0; i < want.length; i++) {
            due(x.at(r, i), want[i], "at", r, i);
        }
        due(x.at(r, want.length), HalfFloats.BAD, "at", r, want.length);
    }

    /** S, STREAK and G. */
    void scaler(int s, int streak, int g) {
        due(x.count(4), s, "count", 4);
        due(x.count(5), streak, "count", 5);
        due(x.count(6), g, "count", 6);
    }

    /** Row r is emptied, of FORMAT k, and gets these PATTERNS. */
    void row(int r, int k, int... patterns) {
        x.clear(r, k);
        for (int i = 0; i < patterns.length; i++) {
            due(x.push(r, patterns[i]), i + 1, "push", r, patterns[i]);
        }
    }

    /** Row r with as many of one PATTERN. */
    void rowOf(int r, int k, int many, int pattern) {
        int[] patterns = new int[many];
        Arrays.fill(patterns, pattern);
        row(r, k, patterns);
    }
}
