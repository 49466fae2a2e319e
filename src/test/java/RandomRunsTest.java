import java.util.Arrays;
import java.util.Random;

/** All promises: the same drawn runs of calls go to the class and to the model, and each answer must be alike. */
public final class RandomRunsTest {
    private static final int RUNS = 3000;
    /** With the longest move and the look at the end these are fewer than the 512 that an object is good for. */
    private static final int CALLS = 430;

    private final Check check;
    private final Random random;
    private final HalfFloats real = new HalfFloats();
    private final Model model = new Model();
    private final int run;
    private int calls = 0;

    private RandomRunsTest(Check check, int run) {
        this.check = check;
        this.run = run;
        random = new Random(run);
    }

    public static void main(String[] args) {
        Check check = new Check("RandomRunsTest");
        for (int run = 0; run < RUNS && check.faults() == 0; run++) {
            new RandomRunsTest(check, run).play();
        }
        check.finish();
    }

    private void play() {
        for (int moves = 0; moves < CALLS && calls < CALLS; moves++) {
            call();
        }
        for (int what = 0; what < 7; what++) {
            due("count", real.count(what), model.count(what), what);
        }
        for (int i = 0; i < 33; i++) {
            due("at", real.at(1, i), model.at(1, i), 1, i);
        }
        due("flags", real.flags(), model.flags());
        due("seed", real.seed(1), model.seed(1), 1);
        check.holds("no more than 512 calls", calls <= 512);
    }

    private void due(String name, long got, long want, int... args) {
        calls++;
        check.due("run " + run + " " + name + Arrays.toString(args), got, want);
    }

    /** A number from 0 up to the last, seldom one outside. */
    private int upTo(int last) {
        int odd = random.nextInt(150);
        if (odd == 0) {
            return last + 1;
        }
        if (odd == 1) {
            return -1;
        }
        return odd == 2 ? random.nextInt() : random.nextInt(last + 1);
    }

    /** A PATTERN of FORMAT k, often at an edge, seldom with other bits. */
    private int pattern(int k) {
        int form = k < 0 || k > 3 ? 0 : k;
        int e = model.form(form, 0);
        int f = model.form(form, 1);
        int greatest = model.form(form, 3);
        int bias = (1 << (e - 1)) - 1;
        int sign = random.nextInt(2) << (e + f);
        int size;
        switch (random.nextInt(12)) {
            case 0: size = 0; break;
            case 1: size = 1 + random.nextInt(2); break;
            case 2: size = greatest - random.nextInt(2); break;
            case 3: size = random.nextInt(5) == 0 ? greatest + 1 : greatest; break;
            case 4: size = random.nextInt(8) == 0 ? model.form(form, 4) : bias << f; break;
            case 5: size = (1 << f) - 1 + random.nextInt(3); break;
            case 6: size = random.nextInt(1 << f); break;
            case 7: size = random.nextInt(greatest); break;
            default:
                size = Math.max(bias - 2 + random.nextInt(5), 0) << f | random.nextInt(1 << f);
                break;
        }
        size = (int) (size & (1L << (e + f)) - 1);
        int odd = random.nextInt(200);
        if (odd == 0) {
            return (int) (1L << Math.min(e + f + 1, 31));
        }
        return odd == 1 ? random.nextInt() : sign | size;
    }

    private void call() {
        switch (random.nextInt(30)) {
            case 0: format(); break;
            case 1: look(); break;
            case 2: case 3: case 4: turn(); break;
            case 5: case 6: case 7: case 8: reckon(); break;
            case 9: case 10: case 11: fused(); break;
            case 12: compare(); break;
            case 13: case 14: due("flags", real.flags(), model.flags()); break;
            case 15: seed(); break;
            case 16: clear(); break;
            case 17: case 18: case 19: push(); break;
            case 20: at(); break;
            case 21: case 22: sum(); break;
            case 23: case 24: dot(); break;
            case 25: block(); break;
            case 26: scaler(); break;
            case 27: case 28: step(); break;
            default: kept(); break;
        }
    }

    private void format() {
        int k = upTo(3);
        boolean narrow = random.nextBoolean();
        int e = random.nextInt(20) == 0 ? random.nextInt(12) : narrow ? 2 + random.nextInt(3) : 2 + random.nextInt(7);
        int f = random.nextInt(20) == 0 ? random.nextInt(27) : narrow ? 1 + random.nextInt(4) : 1 + random.nextInt(23);
        int kind = upTo(2);
        due("format", real.format(k, e, f, kind), model.format(k, e, f, kind), k, e, f, kind);
    }

    private void look() {
        int k = upTo(3);
        int what = upTo(4);
        due("form", real.form(k, what), model.form(k, what), k, what);
        int a = pattern(k);
        int part = upTo(3);
        due("part", real.part(k, a, part), model.part(k, a, part), k, a, part);
        int told = upTo(6);
        due("count", real.count(told), model.count(told), told);
    }

    private void turn() {
        int k = upTo(3);
        int a = pattern(k);
        int m = upTo(3);
        int way = upTo(5);
        due("turn", real.turn(k, a, m, way), model.turn(k, a, m, way), k, a, m, way);
    }

    private void reckon() {
        int how = upTo(2);
        int k = upTo(3);
        int a = pattern(k);
        int m = upTo(3);
        int b = m == k && random.nextInt(6) == 0 ? a : pattern(m);
        int n = upTo(3);
        int way = upTo(5);
        due("reckon", real.reckon(how, k, a, m, b, n, way), model.reckon(how, k, a, m, b, n, way),
            how, k, a, m, b, n, way);
    }

    private void fused() {
        int k = upTo(3);
        int a = pattern(k);
        int b = pattern(k);
        int n = upTo(3);
        int c = pattern(n);
        int way = upTo(5);
        due("fused", real.fused(k, a, b, n, c, way), model.fused(k, a, b, n, c, way), k, a, b, n, c, way);
    }

    private void compare() {
        int k = upTo(3);
        int a = pattern(k);
        int m = upTo(3);
        int b = m == k && random.nextBoolean() ? a : pattern(m);
        due("compare", real.compare(k, a, m, b), model.compare(k, a, m, b), k, a, m, b);
    }

    private void seed() {
        int s = random.nextInt(4) == 0 ? random.nextInt(3) - 1 : random.nextInt(Integer.MAX_VALUE);
        due("seed", real.seed(s), model.seed(s), s);
    }

    private void clear() {
        int r = upTo(1);
        int k = upTo(3);
        due("clear", real.clear(r, k), model.clear(r, k), r, k);
    }

    /** Many at once, so that rows grow long and full. */
    private void push() {
        int r = upTo(1);
        int many = random.nextInt(8) == 0 ? 34 : random.nextInt(6);
        boolean calm = random.nextInt(4) != 0;
        for (int i = 0; i < many; i++) {
            int k = model.count(r == 0 ? 2 : 3);
            int a = pattern(k);
            if (calm && model.part(k, a, 0) > 2) {
                continue;
            }
            due("push", real.push(r, a), model.push(r, a), r, a);
        }
    }

    private void at() {
        int r = upTo(1);
        int i = upTo(31);
        due("at", real.at(r, i), model.at(r, i), r, i);
    }

    private void sum() {
        int r = upTo(1);
        int how = upTo(2);
        int n = upTo(3);
        int way = upTo(5);
        due("sum", real.sum(r, how, n, way), model.sum(r, how, n, way), r, how, n, way);
    }

    private void dot() {
        int c = random.nextBoolean() ? upTo(4) : upTo(32);
        int m = upTo(3);
        int n = upTo(3);
        int way = upTo(5);
        due("dot", real.dot(c, m, n, way), model.dot(c, m, n, way), c, m, n, way);
    }

    private void block() {
        int e = upTo(3);
        due("scale", real.scale(e), model.scale(e), e);
        int i = upTo(Math.max(model.count(0), 1));
        due("element", real.element(e, i), model.element(e, i), e, i);
    }

    private void scaler() {
        int s = random.nextInt(3) == 0 ? random.nextInt(124) - 62 : random.nextInt(5) - 2;
        int g = random.nextInt(4) == 0 ? random.nextInt(103) - 1 : 1 + random.nextInt(3);
        due("scaler", real.scaler(s, g), model.scaler(s, g), s, g);
    }

    private void step() {
        int r = pattern(model.count(3));
        due("step", real.step(r), model.step(r), r);
        due("count", real.count(4), model.count(4), 4);
        due("count", real.count(5), model.count(5), 5);
    }

    /** The model's own way through all PATTERNS is long: small FORMATS alone, or refusals. */
    private void kept() {
        int k = upTo(3);
        boolean large = k >= 0 && k <= 3 && model.form(k, 0) + model.form(k, 1) > 7
            && model.form(k, 0) + model.form(k, 1) < 12;
        if (large && random.nextInt(60) != 0) {
            return;
        }
        int m = upTo(3);
        int way = upTo(4);
        due("kept", real.kept(k, m, way), model.kept(k, m, way), k, m, way);
    }
}
