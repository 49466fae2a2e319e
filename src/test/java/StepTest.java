/** Promises 19 and 20: scaler, step. */
public final class StepTest {
    private static final Check CHECK = new Check("StepTest");
    private static final int ONE = 0x3C00, HALF = 0x3800, INF = 0x7C00, MINUS_ZERO = 0x8000, NAN = 0x7E00;

    public static void main(String[] args) {
        scalerTakesItsBounds();
        scalerRefuses();
        plainSteps();
        streaksGrow();
        overflowsFall();
        lookAtAllSlopes();
        stepsOfShorterRow();
        eachPartIsRounded();
        slopesComeDown();
        zerosAndNoNumbers();
        stepRefuses();
        CHECK.finish();
    }

    private static HalfFloats halves(int[] slopes, int[] weights) {
        HalfFloats x = new HalfFloats();
        x.clear(1, 0);
        for (int a : slopes) {
            x.push(0, a);
        }
        for (int a : weights) {
            x.push(1, a);
        }
        return x;
    }

    private static void state(HalfFloats x, int s, int streak, int g) {
        CHECK.due("S", x.count(4), s);
        CHECK.due("STREAK", x.count(5), streak);
        CHECK.due("G", x.count(6), g);
    }

    private static void scalerTakesItsBounds() {
        HalfFloats x = new HalfFloats();
        state(x, 0, 0, 3);
        CHECK.due("step(0)", x.step(0), 1);
        state(x, 0, 1, 3);
        CHECK.due("scaler(-60, 1)", x.scaler(-60, 1), 1);
        state(x, -60, 0, 1);
        CHECK.due("scaler(60, 100)", x.scaler(60, 100), 1);
        state(x, 60, 0, 100);
        x.step(0);
        CHECK.due("scaler(60, 100) again", x.scaler(60, 100), 1);
        state(x, 60, 0, 100);
    }

    private static void scalerRefuses() {
        HalfFloats x = new HalfFloats();
        x.scaler(5, 7);
        x.step(0);
        int[][] wrong = {
            {-61, 1}, {61, 1}, {0, 0}, {0, 101}, {0, -1}, {Integer.MIN_VALUE, 1}, {Integer.MAX_VALUE, 1},
            {0, Integer.MIN_VALUE}, {0, Integer.MAX_VALUE}
        };
        for (int[] w : wrong) {
            CHECK.due("scaler(" + w[0] + ", " + w[1] + ")", x.scaler(w[0], w[1]), HalfFloats.BAD);
            state(x, 5, 1, 7);
        }
    }

    private static void plainSteps() {
        HalfFloats x = halves(new int[] {ONE, 0xC000, 0}, new int[] {0x4200, ONE, ONE});
        CHECK.due("step(0.5)", x.step(HALF), 1);
        CHECK.due("3 - 0.5", x.at(1, 0), 0x4100);
        CHECK.due("1 + 0.5 * 2", x.at(1, 1), 0x4000);
        CHECK.due("1 - 0", x.at(1, 2), ONE);
        CHECK.due("step(-0.5)", x.step(0xB800), 1);
        CHECK.due("2.5 + 0.5", x.at(1, 0), 0x4200);
        CHECK.due("2 - 1", x.at(1, 1), ONE);
        CHECK.due("the slopes stay", x.at(0, 1), 0xC000);
        CHECK.due("flags()", x.flags(), 0);
        state(x, 0, 2, 3);
    }

    private static void streaksGrow() {
        HalfFloats x = halves(new int[0], new int[0]);
        for (int i = 1; i <= 9; i++) {
            CHECK.due("step", x.step(0), 1);
            state(x, i / 3, i % 3, 3);
        }
        x.scaler(59, 1);
        x.step(0);
        state(x, 60, 0, 1);
        CHECK.due("step at the top", x.step(0), 1);
        state(x, 60, 0, 1);
    }

    private static void overflowsFall() {
        int[] breaking = {INF, 0xFC00, NAN, 0xFC01};
        for (int a : breaking) {
            HalfFloats x = halves(new int[] {ONE, a}, new int[] {ONE, ONE});
            x.scaler(1, 2);
            CHECK.due("step with a slope " + a, x.step(ONE), 0);
            state(x, 0, 0, 2);
            CHECK.due("the weight stays", x.at(1, 0), ONE);
            CHECK.due("flags()", x.flags(), 0);
        }
        HalfFloats x = halves(new int[0], new int[0]);
        x.step(0);
        x.step(0);
        state(x, 0, 2, 3);
        x.push(0, INF);
        CHECK.due("step", x.step(0), 0);
        state(x, -1, 0, 3);
        x.scaler(-59, 1);
        x.step(0);
        state(x, -60, 0, 1);
        CHECK.due("step at the bottom", x.step(0), 0);
        state(x, -60, 0, 1);
    }

    /** KIND 1 has no infinite slopes, but NAN; its last but one PATTERN is a number. */
    private static void lookAtAllSlopes() {
        HalfFloats x = new HalfFloats();
        x.clear(0, 3);
        x.push(0, 126);
        CHECK.due("step", x.step(0), 1);
        x.push(0, 255);
        CHECK.due("step with NAN where no weight is", x.step(0), 0);
    }

    private static void stepsOfShorterRow() {
        HalfFloats x = halves(new int[] {ONE}, new int[] {ONE, 0x7C01});
        x.step(ONE);
        CHECK.due("at(1, 0)", x.at(1, 0), 0);
        CHECK.due("at(1, 1)", x.at(1, 1), 0x7C01);
        HalfFloats y = halves(new int[] {ONE, ONE, ONE}, new int[] {ONE});
        y.step(ONE);
        CHECK.due("at(1, 0)", y.at(1, 0), 0);
        CHECK.due("count(1)", y.count(1), 1);
        CHECK.due("at(1, 1)", y.at(1, 1), HalfFloats.BAD);
    }

    /** A rate of 1 + 2^-10 and the same slope: the product loses its last bit before it is taken away. */
    private static void eachPartIsRounded() {
        HalfFloats x = halves(new int[] {ONE + 1}, new int[] {ONE + 2});
        x.step(ONE + 1);
        CHECK.due("what two roundings leave", x.at(1, 0), 0);
        CHECK.due("flags()", x.flags(), 8);
        // the slope is ROUNDED into the weights' FORMAT: 1.0625 is 1 in FORMAT 3
        HalfFloats y = new HalfFloats();
        y.clear(1, 3);
        y.push(0, 0x3C40);
        y.push(1, 64);
        y.step(56);
        CHECK.due("2 - 1", y.at(1, 0), 56);
        CHECK.due("flags()", y.flags(), 8);
        y.seed(3);
        y.step(57);
        CHECK.due("nothing is drawn", y.seed(1), 3);
    }

    private static void slopesComeDown() {
        HalfFloats x = halves(new int[] {0x4800}, new int[] {0x4800});
        x.scaler(3, 100);
        x.step(ONE);
        CHECK.due("8 less 8 / 8", x.at(1, 0), 0x4700);
        x.scaler(-1, 100);
        x.step(ONE);
        CHECK.due("7 less 8 * 2", x.at(1, 0), 0xC880);
        x.scaler(-60, 100);
        x.step(ONE);
        CHECK.due("less what overflows", x.at(1, 0), 0xFC00);
        CHECK.due("flags()", x.flags(), 10);
        x.clear(1, 0);
        x.push(1, ONE);
        x.scaler(60, 100);
        x.step(ONE);
        CHECK.due("less what sinks", x.at(1, 0), ONE);
        CHECK.due("flags()", x.flags(), 12);
    }

    private static void zerosAndNoNumbers() {
        // the change is -0 for a rate of +0 and a slope above 0, and +0 for a rate of -0
        HalfFloats x = halves(new int[] {ONE, ONE}, new int[] {MINUS_ZERO, 0});
        x.step(0);
        CHECK.due("-0 and -0", x.at(1, 0), MINUS_ZERO);
        CHECK.due("+0 and -0", x.at(1, 1), 0);
        x.step(MINUS_ZERO);
        CHECK.due("-0 and +0", x.at(1, 0), 0);
        HalfFloats y = halves(new int[] {0, ONE, ONE}, new int[] {ONE, ONE, INF});
        CHECK.due("an infinite rate", y.step(INF), 1);
        CHECK.due("0 times infinite", y.at(1, 0), NAN);
        CHECK.due("1 less infinite", y.at(1, 1), 0xFC00);
        CHECK.due("infinite less infinite", y.at(1, 2), NAN);
        CHECK.due("flags()", y.flags(), 1);
        HalfFloats z = halves(new int[] {ONE}, new int[] {ONE});
        CHECK.due("a rate of NAN", z.step(0xFFFF), 1);
        CHECK.due("a weight of NAN", z.at(1, 0), NAN);
        CHECK.due("flags()", z.flags(), 0);
    }

    private static void stepRefuses() {
        HalfFloats x = halves(new int[] {INF}, new int[] {ONE});
        x.scaler(4, 5);
        int[] wrong = {65536, -1, Integer.MIN_VALUE};
        for (int r : wrong) {
            CHECK.due("step(" + r + ")", x.step(r), HalfFloats.BAD);
        }
        state(x, 4, 0, 5);
        x.clear(1, 3);
        CHECK.due("step(256)", x.step(256), HalfFloats.BAD);
        CHECK.due("step(255)", x.step(255), 0);
        x.clear(1, 2);
        CHECK.due("step(-1)", x.step(-1), 0);
        state(x, 2, 0, 5);
    }
}
