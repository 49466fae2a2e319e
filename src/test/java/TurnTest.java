/** Promises 5, 9 and 10: turn, flags, seed; what ROUNDED means in each WAY. */
public final class TurnTest {
    private static final Check CHECK = new Check("TurnTest");
    private static final int HALF = 0, SINGLE = 2, NARROW = 3;

    public static void main(String[] args) {
        fiveWays();
        smallNumbers();
        greatNumbersOfKindOne();
        greatNumbersOfKindTwo();
        greatNumbersOfKindZero();
        whatIsNoNumber();
        drawnNumbers();
        whereNothingIsDrawn();
        flagsStayOn();
        seedTellsWhatItWas();
        refusals();
        asTheMachineTurns();
        CHECK.finish();
    }

    private static void turns(HalfFloats x, int k, int a, int m, int way, long due, int flags) {
        String call = "turn(" + k + ", " + a + ", " + m + ", " + way + ")";
        CHECK.due(call, x.turn(k, a, m, way), due);
        CHECK.due("flags() after " + call, x.flags(), flags);
    }

    private static int single(double value) {
        return Float.floatToRawIntBits((float) value);
    }

    /** Into FORMAT 3, whose values from 1 on are an eighth apart: 56 is 1. */
    private static void fiveWays() {
        HalfFloats x = new HalfFloats();
        double[] values = {1, 1.0625, 1.1875, 1.0625 + 1.0 / 1024, 1.0625 - 1.0 / 1024, 1.9990234375};
        int[][] due = {
            {56, 56, 56, 56, 56}, {56, 57, 56, 57, 56}, {58, 58, 57, 58, 57}, {57, 57, 56, 57, 56},
            {56, 56, 56, 57, 56}, {64, 64, 63, 64, 63}
        };
        for (int i = 0; i < values.length; i++) {
            for (int way = 0; way < 5; way++) {
                int flags = i == 0 ? 0 : 8;
                turns(x, SINGLE, single(values[i]), NARROW, way, due[i][way], flags);
                // the upper one of two below 0 is the nearer one to 0
                int other = way == 3 ? 4 : way == 4 ? 3 : way;
                turns(x, SINGLE, single(-values[i]), NARROW, other, due[i][way] + 128, flags);
            }
        }
    }

    /** FORMAT 3 has 2 to the power -9 as its least value above 0, and EXP 1 from 2 to the power -6 on. */
    private static void smallNumbers() {
        HalfFloats x = new HalfFloats();
        double least = 1.0 / 512;
        int[] ofTie = {0, 1, 0, 1, 0};
        int[] ofTieBelow = {128, 129, 128, 128, 129};
        for (int way = 0; way < 5; way++) {
            turns(x, SINGLE, single(least), NARROW, way, 1, 0);
            turns(x, SINGLE, single(least / 2), NARROW, way, ofTie[way], 12);
            turns(x, SINGLE, single(-least / 2), NARROW, way, ofTieBelow[way], 12);
            turns(x, SINGLE, 1, NARROW, way, way == 3 ? 1 : 0, 12);
            turns(x, SINGLE, 0x80000001, NARROW, way, way == 4 ? 129 : 128, 12);
            turns(x, SINGLE, single(7 * least), NARROW, way, 7, 0);
        }
        turns(x, HALF, 9215, NARROW, 0, 8, 12);
        turns(x, HALF, 9215, NARROW, 2, 7, 12);
        turns(x, HALF, 9216, NARROW, 0, 8, 0);
        turns(x, HALF, 9217, NARROW, 0, 8, 8);
        turns(x, HALF, 9217, NARROW, 3, 9, 8);
        turns(x, SINGLE, 0x33000000, HALF, 0, 0, 12);
        turns(x, SINGLE, 0x33000001, HALF, 0, 1, 12);
        turns(x, HALF, 1, SINGLE, 0, 0x33800000, 0);
    }

    /** 448 is the greatest value of FORMAT 3; the next one would be 480. */
    private static void greatNumbersOfKindOne() {
        HalfFloats x = new HalfFloats();
        double[] values = {448, 463, 464, 465, 480, 1e30};
        int[][] flags = {
            {0, 0, 0, 0, 0}, {8, 8, 8, 10, 8}, {8, 10, 8, 10, 8}, {10, 10, 8, 10, 8},
            {10, 10, 10, 10, 10}, {10, 10, 10, 10, 10}
        };
        for (int i = 0; i < values.length; i++) {
            for (int way = 0; way < 5; way++) {
                turns(x, SINGLE, single(values[i]), NARROW, way, 126, flags[i][way]);
                int other = way == 3 ? 4 : way == 4 ? 3 : way;
                turns(x, SINGLE, single(-values[i]), NARROW, other, 254, flags[i][way]);
            }
        }
    }

    private static void greatNumbersOfKindTwo() {
        HalfFloats x = new HalfFloats();
        x.format(NARROW, 4, 3, 2);
        for (int way = 0; way < 5; way++) {
            turns(x, SINGLE, single(448), NARROW, way, 126, 0);
            turns(x, SINGLE, single(480), NARROW, way, 127, 10);
            turns(x, SINGLE, single(-480), NARROW, way, 127, 10);
            turns(x, SINGLE, single(464), NARROW, way, way == 1 || way == 3 ? 127 : 126, way == 1 || way == 3 ? 10 : 8);
            turns(x, HALF, 0x7C00, NARROW, way, 127, 0);
            turns(x, HALF, 0xFC00, NARROW, way, 127, 0);
        }
    }

    /** 65504 is the greatest value of FORMAT 0; the next one would be 65536. */
    private static void greatNumbersOfKindZero() {
        HalfFloats x = new HalfFloats();
        int[] above = {0x7C00, 0x7C00, 0x7BFF, 0x7C00, 0x7BFF};
        int[] below = {0xFC00, 0xFC00, 0xFBFF, 0xFBFF, 0xFC00};
        for (int way = 0; way < 5; way++) {
            turns(x, SINGLE, single(65536), HALF, way, above[way], 10);
            turns(x, SINGLE, single(-65536), HALF, way, below[way], 10);
            turns(x, SINGLE, single(1e30), HALF, way, above[way], 10);
            turns(x, SINGLE, single(-1e30), HALF, way, below[way], 10);
            turns(x, SINGLE, single(65504), HALF, way, 0x7BFF, 0);
            boolean over = above[way] == 0x7C00;
            turns(x, SINGLE, single(65520), HALF, way, above[way], over ? 10 : 8);
            turns(x, SINGLE, single(65519), HALF, way, way == 3 ? 0x7C00 : 0x7BFF, way == 3 ? 10 : 8);
        }
    }

    private static void whatIsNoNumber() {
        HalfFloats x = new HalfFloats();
        for (int way = 0; way < 6; way++) {
            turns(x, HALF, 0x7C01, SINGLE, way, 0x7FC00000, 0);
            turns(x, HALF, 0xFFFF, 1, way, 0x7FC0, 0);
            turns(x, SINGLE, -1, NARROW, way, 127, 0);
            turns(x, NARROW, 255, HALF, way, 0x7E00, 0);
            turns(x, HALF, 0x7C00, SINGLE, way, 0x7F800000, 0);
            turns(x, HALF, 0xFC00, SINGLE, way, 0xFF800000L, 0);
            turns(x, HALF, 0x7C00, NARROW, way, 126, 0);
            turns(x, HALF, 0xFC00, NARROW, way, 254, 0);
            turns(x, HALF, 0, NARROW, way, 0, 0);
            turns(x, HALF, 0x8000, SINGLE, way, 0x80000000L, 0);
        }
    }

    /** From state 1 on the drawn numbers are 3016, 9598, .. */
    private static void drawnNumbers() {
        HalfFloats x = new HalfFloats();
        int one = 0x3F800000;
        int[][] tries = {{48256, 56}, {48271, 56}, {48272, 57}, {1, 56}, {0xFFFFF, 57}};
        for (int[] t : tries) {
            x.seed(1);
            turns(x, SINGLE, one + t[0], NARROW, 5, t[1], 8);
            CHECK.due("the state then", x.seed(1), 48271);
            turns(x, SINGLE, 0x80000000 + one + t[0], NARROW, 5, t[1] + 128, 8);
            turns(x, SINGLE, one + 9598 * 16, NARROW, 5, 56, 8);
            CHECK.due("the state after two", x.seed(48271), 182605794);
            turns(x, SINGLE, one + 9599 * 16, NARROW, 5, 57, 8);
        }
        x.seed(1);
        turns(x, SINGLE, 1, NARROW, 5, 0, 12);
        turns(x, SINGLE, single(1e30), HALF, 5, 0x7C00, 10);
        CHECK.due("the state after two more", x.seed(2147483646), 182605794);
        // the state is -1 modulo 2147483647 and becomes -48271: 2147435376, drawn is 134214711 modulo 65536
        turns(x, SINGLE, one + 62519 * 16, NARROW, 5, 56, 8);
        CHECK.due("the state after the last seed", x.seed(2147483646), 2147435376);
        turns(x, SINGLE, one + 62520 * 16, NARROW, 5, 57, 8);
    }

    private static void whereNothingIsDrawn() {
        HalfFloats x = new HalfFloats();
        turns(x, HALF, 15360, NARROW, 5, 56, 0);
        turns(x, HALF, 0x7C00, NARROW, 5, 126, 0);
        turns(x, HALF, 0x7E00, NARROW, 5, 127, 0);
        turns(x, HALF, 15361, NARROW, 0, 56, 8);
        turns(x, HALF, 15361, NARROW, 3, 57, 8);
        CHECK.due("turn in no WAY", x.turn(HALF, 15361, NARROW, 6), HalfFloats.BAD);
        CHECK.due("the state", x.seed(1), 1);
        // 65536 would be a value if there were a greater EXP: it is between no two
        turns(x, SINGLE, single(65536), HALF, 5, 0x7C00, 10);
        CHECK.due("the state after an even overflow", x.seed(1), 1);
    }

    private static void flagsStayOn() {
        HalfFloats x = new HalfFloats();
        x.turn(HALF, 15361, NARROW, 0);
        x.turn(HALF, 15360, NARROW, 0);
        x.turn(HALF, 1, NARROW, 0);
        x.turn(SINGLE, single(1e30), NARROW, 0);
        x.reckon(0, HALF, 0x7C00, HALF, 0xFC00, HALF, 0);
        x.turn(-1, 0, 0, 0);
        CHECK.due("flags()", x.flags(), 15);
        CHECK.due("flags() again", x.flags(), 0);
    }

    private static void seedTellsWhatItWas() {
        HalfFloats x = new HalfFloats();
        CHECK.due("seed(2147483646)", x.seed(2147483646), 1);
        CHECK.due("seed(0)", x.seed(0), HalfFloats.BAD);
        CHECK.due("seed(-1)", x.seed(-1), HalfFloats.BAD);
        CHECK.due("seed(2147483647)", x.seed(2147483647), HalfFloats.BAD);
        CHECK.due("seed(least)", x.seed(Integer.MIN_VALUE), HalfFloats.BAD);
        CHECK.due("seed(1)", x.seed(1), 2147483646);
        CHECK.due("seed(2)", x.seed(2), 1);
        CHECK.due("seed(3)", x.seed(3), 2);
    }

    private static void refusals() {
        HalfFloats x = new HalfFloats();
        int[][] wrong = {
            {-1, 0, 0, 0}, {4, 0, 0, 0}, {0, 65536, 3, 0}, {0, -1, 3, 0}, {3, 256, 0, 0}, {1, Integer.MIN_VALUE, 0, 0},
            {0, 15361, -1, 0}, {0, 15361, 4, 0}, {0, 15361, 3, -1}, {0, 15361, 3, 6},
            {0, 15361, 3, Integer.MAX_VALUE}, {Integer.MIN_VALUE, 0, 0, 0}
        };
        for (int[] w : wrong) {
            CHECK.due("turn(" + w[0] + ", " + w[1] + ", " + w[2] + ", " + w[3] + ")",
                x.turn(w[0], w[1], w[2], w[3]), HalfFloats.BAD);
        }
        CHECK.due("flags()", x.flags(), 0);
        CHECK.due("seed(1)", x.seed(1), 1);
    }

    /** Java's own float is FORMAT 2: from it, FORMAT 1 is its upper half, rounded. */
    private static void asTheMachineTurns() {
        java.util.Random random = new java.util.Random(5);
        for (int i = 0; i < 20000; i++) {
            HalfFloats x = new HalfFloats();
            int a = random.nextInt();
            if (Float.isNaN(Float.intBitsToFloat(a))) {
                continue;
            }
            long even = Integer.toUnsignedLong(a) + 0x7FFF + (a >>> 16 & 1) >>> 16;
            CHECK.due("turn(2, " + a + ", 1, 0)", x.turn(SINGLE, a, 1, 0), even);
            CHECK.due("turn(2, " + a + ", 1, 2)", x.turn(SINGLE, a, 1, 2), a >>> 16);
        }
    }
}
