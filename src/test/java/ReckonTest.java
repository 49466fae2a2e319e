import java.util.Random;

/** Promises 6 to 8: reckon, fused, compare; what SUM means. */
public final class ReckonTest {
    private static final Check CHECK = new Check("ReckonTest");
    private static final int ONE = 0x3C00, MINUS_ONE = 0xBC00, INF = 0x7C00, MINUS_INF = 0xFC00, NAN = 0x7E00;
    private static final int MINUS_ZERO = 0x8000, MOST = 0x7BFF;

    public static void main(String[] args) {
        sumsAndProducts();
        signsOfZero();
        noNumbersAndInfinite();
        roundedOnce();
        acrossFormats();
        reckonRefuses();
        fusedIsRoundedOnce();
        fusedEdges();
        fusedRefuses();
        comparing();
        compareRefuses();
        asTheMachineReckons();
        CHECK.finish();
    }

    private static void halves(HalfFloats x, int how, int a, int b, int way, long due, int flags) {
        String call = "reckon(" + how + ", 0, " + a + ", 0, " + b + ", 0, " + way + ")";
        CHECK.due(call, x.reckon(how, 0, a, 0, b, 0, way), due);
        CHECK.due("flags() after " + call, x.flags(), flags);
    }

    private static void sumsAndProducts() {
        HalfFloats x = new HalfFloats();
        for (int way = 0; way < 6; way++) {
            halves(x, 0, ONE, 0x4000, way, 0x4200, 0);
            halves(x, 1, ONE, 0x4000, way, MINUS_ONE, 0);
            halves(x, 2, 0x4200, 0xC200, way, 0xC880, 0);
            halves(x, 0, 1, 1, way, 2, 0);
            halves(x, 1, 0x0400, 1, way, 0x03FF, 0);
        }
        CHECK.due("nothing was drawn", x.seed(1), 1);
    }

    private static void signsOfZero() {
        HalfFloats x = new HalfFloats();
        for (int way = 0; way < 6; way++) {
            long mixed = way == 4 ? MINUS_ZERO : 0;
            halves(x, 0, 0, 0, way, 0, 0);
            halves(x, 0, MINUS_ZERO, MINUS_ZERO, way, MINUS_ZERO, 0);
            halves(x, 0, 0, MINUS_ZERO, way, mixed, 0);
            halves(x, 0, MINUS_ZERO, 0, way, mixed, 0);
            halves(x, 1, 0, 0, way, mixed, 0);
            halves(x, 1, MINUS_ZERO, 0, way, MINUS_ZERO, 0);
            halves(x, 1, 0, MINUS_ZERO, way, 0, 0);
            halves(x, 1, ONE, ONE, way, mixed, 0);
            halves(x, 0, MINUS_ONE, ONE, way, mixed, 0);
            halves(x, 2, 0, ONE, way, 0, 0);
            halves(x, 2, 0, MINUS_ONE, way, MINUS_ZERO, 0);
            halves(x, 2, MINUS_ZERO, MINUS_ONE, way, 0, 0);
            halves(x, 0, ONE, MINUS_ZERO, way, ONE, 0);
        }
        halves(x, 2, 1, 1, 0, 0, 12);
        halves(x, 2, 1, 0x8001, 0, MINUS_ZERO, 12);
        halves(x, 2, 1, 0x8001, 4, 0x8001, 12);
        halves(x, 2, 1, 0x8001, 3, MINUS_ZERO, 12);
    }

    private static void noNumbersAndInfinite() {
        HalfFloats x = new HalfFloats();
        for (int way = 0; way < 6; way++) {
            halves(x, 0, INF, MINUS_INF, way, NAN, 1);
            halves(x, 1, INF, INF, way, NAN, 1);
            halves(x, 0, INF, INF, way, INF, 0);
            halves(x, 1, ONE, INF, way, MINUS_INF, 0);
            halves(x, 0, MINUS_INF, MOST, way, MINUS_INF, 0);
            halves(x, 2, INF, 0, way, NAN, 1);
            halves(x, 2, MINUS_ZERO, MINUS_INF, way, NAN, 1);
            halves(x, 2, INF, MINUS_ONE, way, MINUS_INF, 0);
            halves(x, 2, 0xFC01, 0, way, NAN, 0);
            halves(x, 0, INF, 0x7FFF, way, NAN, 0);
            halves(x, 1, 0x7C01, INF, way, NAN, 0);
        }
        CHECK.due("infinite into KIND 1", x.reckon(0, 0, MINUS_INF, 0, ONE, 3, 0), 254);
        CHECK.due("flags()", x.flags(), 0);
        CHECK.due("invalid into KIND 1", x.reckon(2, 0, MINUS_INF, 0, 0, 3, 0), 127);
        CHECK.due("flags()", x.flags(), 1);
        x.format(3, 4, 3, 2);
        CHECK.due("infinite into KIND 2", x.reckon(0, 0, MINUS_INF, 0, ONE, 3, 0), 127);
        CHECK.due("flags()", x.flags(), 0);
    }

    private static void roundedOnce() {
        HalfFloats x = new HalfFloats();
        // 1 and 2 to the power -11: half of the way from 1 to the next value
        int tie = 0x1000;
        long[] due = {ONE, ONE + 1, ONE, ONE + 1, ONE};
        for (int way = 0; way < 5; way++) {
            halves(x, 0, ONE, tie, way, due[way], 8);
            halves(x, 0, ONE + 1, tie, way, way == 2 || way == 4 ? ONE + 1 : ONE + 2, 8);
            halves(x, 0, ONE, 1, way, way == 3 ? ONE + 1 : ONE, 8);
            halves(x, 1, ONE, 1, way, way == 2 || way == 4 ? ONE - 1 : ONE, 8);
        }
        halves(x, 0, MOST, MOST, 0, INF, 10);
        halves(x, 2, MOST, 0xC000, 3, 0xFBFF, 10);
        halves(x, 2, MOST, 0xC000, 4, MINUS_INF, 10);
        // the product's least bit counts 2 to the power -298: far below all that a single has
        CHECK.due("a least product upward", x.reckon(2, 2, 1, 2, 1, 2, 3), 1);
        CHECK.due("flags()", x.flags(), 12);
        CHECK.due("a least product drawn", x.reckon(2, 2, 1, 2, 1, 2, 5), 0);
        CHECK.due("flags()", x.flags(), 12);
        CHECK.due("one was drawn", x.seed(1), 48271);
        CHECK.due("the greatest and the least, downward", x.reckon(1, 2, 0x7F7FFFFF, 2, 1, 2, 4), 0x7F7FFFFE);
        CHECK.due("the greatest and the least, to even", x.reckon(1, 2, 0x7F7FFFFF, 2, 1, 2, 0), 0x7F7FFFFF);
        CHECK.due("the greatest and the least, upward", x.reckon(0, 2, 0x7F7FFFFF, 2, 1, 2, 3), 0x7F800000);
        CHECK.due("flags()", x.flags(), 10);
        // more than a tie by the least bit of all
        CHECK.due("a tie and a little", x.fused(2, 0x3F800000, 0x3F800001, 2, 0x33800000, 0), 0x3F800002);
    }

    private static void acrossFormats() {
        HalfFloats x = new HalfFloats();
        CHECK.due("half and bfloat into single", x.reckon(0, 0, ONE + 1, 1, 0x3F81, 2, 0), 0x40009000);
        CHECK.due("flags()", x.flags(), 0);
        CHECK.due("narrow times single into half", x.reckon(2, 3, 126, 2, 0x3F000000, 0, 0), 0x5B00);
        CHECK.due("single less narrow into bfloat", x.reckon(1, 2, 0x3F800000, 3, 64, 1, 0), 0xBF80);
        x.format(3, 8, 23, 1);
        CHECK.due("beyond what KIND 0 holds", x.reckon(2, 2, 0x7F000000, 2, 0x40000000, 3, 0), 0x7F800000);
        CHECK.due("flags()", x.flags(), 0);
        CHECK.due("beyond what KIND 1 holds", x.reckon(2, 3, 0x7F800000, 3, 0xFF800000, 3, 0), 0xFFFFFFFEL);
        CHECK.due("flags()", x.flags(), 10);
    }

    private static void reckonRefuses() {
        HalfFloats x = new HalfFloats();
        int[][] wrong = {
            {-1, 0, 1, 0, 1, 3, 0}, {3, 0, 1, 0, 1, 3, 0}, {0, -1, 1, 0, 1, 3, 0}, {0, 4, 1, 0, 1, 3, 0},
            {0, 0, 65536, 0, 1, 3, 0}, {0, 0, -1, 0, 1, 3, 0}, {0, 0, 1, -1, 1, 3, 0}, {0, 0, 1, 4, 1, 3, 0},
            {0, 0, 1, 3, 256, 3, 0}, {0, 0, 1, 1, -5, 3, 0}, {0, 0, 1, 0, 1, -1, 0}, {0, 0, 1, 0, 1, 4, 0},
            {0, 0, 1, 0, 1, 3, -1}, {2, 0, 1, 0, 1, 3, 6}, {Integer.MIN_VALUE, 0, 1, 0, 1, 3, 5}
        };
        for (int[] w : wrong) {
            CHECK.due("reckon of " + java.util.Arrays.toString(w),
                x.reckon(w[0], w[1], w[2], w[3], w[4], w[5], w[6]), HalfFloats.BAD);
        }
        CHECK.due("flags()", x.flags(), 0);
        CHECK.due("seed(1)", x.seed(1), 1);
    }

    private static void fusedIsRoundedOnce() {
        HalfFloats x = new HalfFloats();
        // (1 + 2^-10)^2 is 1 + 2^-9 + 2^-20: less 1 + 2^-9 just 2^-20 is left, which two roundings lose
        CHECK.due("what one rounding keeps", x.fused(0, ONE + 1, ONE + 1, 0, 0xBC02, 0), 0x0010);
        CHECK.due("flags()", x.flags(), 0);
        CHECK.due("what two roundings lose", x.reckon(1, 0, (int) x.reckon(2, 0, ONE + 1, 0, ONE + 1, 0, 0),
            0, ONE + 2, 0, 0), 0);
        CHECK.due("flags()", x.flags(), 8);
        CHECK.due("products of halves into single", x.fused(0, MOST, MOST, 2, 0x3F800000, 0), 0x4F7FC004);
        CHECK.due("flags()", x.flags(), 8);
        CHECK.due("overflow that c takes back", x.fused(0, MOST, 0x4000, 0, 0xFBFF, 0), MOST);
        CHECK.due("flags()", x.flags(), 0);
    }

    private static void fusedEdges() {
        HalfFloats x = new HalfFloats();
        for (int way = 0; way < 6; way++) {
            long mixed = way == 4 ? MINUS_ZERO : 0;
            CHECK.due("0 * -1 + 0", x.fused(0, 0, MINUS_ONE, 0, 0, way), mixed);
            CHECK.due("0 * -1 - 0", x.fused(0, 0, MINUS_ONE, 0, MINUS_ZERO, way), MINUS_ZERO);
            CHECK.due("1 * 1 - 1", x.fused(0, ONE, ONE, 0, MINUS_ONE, way), mixed);
            CHECK.due("flags()", x.flags(), 0);
            CHECK.due("0 * inf + 1", x.fused(0, 0, INF, 0, ONE, way), NAN);
            CHECK.due("flags()", x.flags(), 1);
            CHECK.due("0 * inf + inf", x.fused(0, INF, 0, 0, INF, way), NAN);
            CHECK.due("flags()", x.flags(), 1);
            CHECK.due("0 * inf + NAN", x.fused(0, 0, INF, 0, 0xFE01, way), NAN);
            CHECK.due("NAN * 1 + inf", x.fused(0, NAN, ONE, 0, INF, way), NAN);
            CHECK.due("flags()", x.flags(), 0);
            CHECK.due("inf * -1 + inf", x.fused(0, INF, MINUS_ONE, 0, INF, way), NAN);
            CHECK.due("flags()", x.flags(), 1);
            CHECK.due("inf * -1 - inf", x.fused(0, INF, MINUS_ONE, 0, MINUS_INF, way), MINUS_INF);
            CHECK.due("1 * 1 - inf into KIND 1 by KIND 0", x.fused(0, INF, ONE, 3, 254, way), 126);
            CHECK.due("flags()", x.flags(), 0);
        }
    }

    private static void fusedRefuses() {
        HalfFloats x = new HalfFloats();
        int[][] wrong = {
            {-1, 1, 1, 3, 1, 0}, {4, 1, 1, 3, 1, 0}, {0, 65536, 1, 3, 1, 0}, {0, 1, 65536, 3, 1, 0},
            {0, 1, 1, -1, 1, 0}, {0, 1, 1, 4, 1, 0}, {0, 1, 1, 3, 256, 0}, {0, 1, 1, 3, -1, 0},
            {0, 1, 1, 3, 1, -1}, {0, 1, 1, 3, 1, 6}
        };
        for (int[] w : wrong) {
            CHECK.due("fused of " + java.util.Arrays.toString(w),
                x.fused(w[0], w[1], w[2], w[3], w[4], w[5]), HalfFloats.BAD);
        }
        CHECK.due("flags()", x.flags(), 0);
        CHECK.due("seed(1)", x.seed(1), 1);
    }

    private static void compares(HalfFloats x, int k, int a, int m, int b, int due) {
        CHECK.due("compare(" + k + ", " + a + ", " + m + ", " + b + ")", x.compare(k, a, m, b), due);
        CHECK.due("compare(" + m + ", " + b + ", " + k + ", " + a + ")", x.compare(m, b, k, a), due == 2 ? 2 : -due);
    }

    private static void comparing() {
        HalfFloats x = new HalfFloats();
        compares(x, 0, ONE, 2, 0x3F800000, 0);
        compares(x, 0, ONE, 2, 0x3F800001, -1);
        compares(x, 0, MINUS_ONE, 2, 0x3F800000, -1);
        compares(x, 0, MINUS_ONE, 2, 0xBF800001, 1);
        compares(x, 0, 0, 0, MINUS_ZERO, 0);
        compares(x, 0, MINUS_ZERO, 3, 0, 0);
        compares(x, 0, 0, 2, 1, -1);
        compares(x, 0, MINUS_ZERO, 2, 0x80000001, 1);
        compares(x, 0, INF, 2, 0x7F800000, 0);
        compares(x, 0, MINUS_INF, 1, 0xFF80, 0);
        compares(x, 0, INF, 2, 0x7F7FFFFF, 1);
        compares(x, 0, MINUS_INF, 2, 0xFF7FFFFF, -1);
        compares(x, 0, INF, 0, MINUS_INF, 1);
        compares(x, 0, 0x7C01, 0, INF, 2);
        compares(x, 0, ONE, 3, 255, 2);
        compares(x, 3, 127, 3, 127, 2);
        compares(x, 2, 0x7F7FFFFF, 2, 1, 1);
        compares(x, 2, 0x7F7FFFFF, 2, 0x7F7FFFFE, 1);
        CHECK.due("flags()", x.flags(), 0);
    }

    private static void compareRefuses() {
        HalfFloats x = new HalfFloats();
        int[][] wrong = {
            {-1, 0, 0, 0}, {4, 0, 0, 0}, {0, 0, -1, 0}, {0, 0, 4, 0}, {0, 65536, 0, 0}, {0, 0, 0, 65536},
            {3, 256, 3, 127}, {3, 127, 3, -1}
        };
        for (int[] w : wrong) {
            CHECK.due("compare of " + java.util.Arrays.toString(w), x.compare(w[0], w[1], w[2], w[3]), -2);
        }
    }

    private static long bits(float value) {
        return Float.floatToIntBits(value) & 0xFFFFFFFFL;
    }

    /** Java's own float is FORMAT 2 in WAY 0, with the same NAN. */
    private static void asTheMachineReckons() {
        Random random = new Random(11);
        for (int i = 0; i < 30000; i++) {
            HalfFloats x = new HalfFloats();
            int a = near(random);
            int b = near(random);
            int c = i % 3 == 0 ? (int) bits(-Float.intBitsToFloat(a) * Float.intBitsToFloat(b)) : near(random);
            float p = Float.intBitsToFloat(a);
            float q = Float.intBitsToFloat(b);
            float r = Float.intBitsToFloat(c);
            CHECK.due(a + " + " + b, x.reckon(0, 2, a, 2, b, 2, 0), bits(p + q));
            CHECK.due(a + " - " + b, x.reckon(1, 2, a, 2, b, 2, 0), bits(p - q));
            CHECK.due(a + " * " + b, x.reckon(2, 2, a, 2, b, 2, 0), bits(p * q));
            CHECK.due(a + " * " + b + " + " + c, x.fused(2, a, b, 2, c, 0), bits(Math.fma(p, q, r)));
            int side = p < q ? -1 : p > q ? 1 : p == q ? 0 : 2;
            CHECK.due(a + " against " + b, x.compare(2, a, 2, b), side);
        }
    }

    private static int near(Random random) {
        int any = random.nextInt();
        return random.nextInt(4) == 0 ? any : any & 0x8FFFFFFF | 0x3F000000 & ~(any & 0x01000000);
    }
}
