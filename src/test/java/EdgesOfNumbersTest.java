/** The edges that the document's sentences on FORMATS, ROUNDED, FLAGS and SUM name, sentence by sentence. */
public final class EdgesOfNumbersTest {
    private static final Check CHECK = new Check("EdgesOfNumbersTest");
    private static final int HALF = Asked.HALF, BRAIN = Asked.BRAIN, SINGLE = Asked.SINGLE, NARROW = Asked.NARROW;
    private static final int ONE = 0x3C00, INF = 0x7C00, MINUS_INF = 0xFC00, MINUS_ZERO = 0x8000, NAN = 0x7E00;
    private static final int WAYS = 6;
    /** The least value of FORMAT 3 as it is at first; its least value with an EXP is 8 of these. */
    private static final double LEAST = 1.0 / 512;

    public static void main(String[] args) {
        formats();
        rounded();
        drawn();
        overflow();
        flags();
        sums();
        CHECK.finish();
    }

    private static double power(int k) {
        return Math.scalb(1.0, k);
    }

    private static void formats() {
        widthsAtTheirEnds();
        bitsOfPatterns();
        fromExpZeroToOne();
        kindZero();
        kindsOneAndTwo();
        theNan();
    }

    private static void widthsAtTheirEnds() {
        CHECK.sentence("have an E, 2 .. 8, an F, 1 .. 23, and a KIND");
        // E, F, KIND, the greatest value, THE NAN, the greatest's whole number and power, the power of the least
        int[][] ends = {
            {2, 1, 0, 5, 7, 3, 0, -1}, {2, 1, 1, 6, 7, 2, 1, -1}, {2, 1, 2, 6, 7, 2, 1, -1},
            {2, 23, 0, 0x017FFFFF, 0x01C00000, 0xFFFFFF, -22, -23},
            {2, 23, 1, 0x01FFFFFE, 0x01FFFFFF, 0xFFFFFE, -21, -23},
            {8, 1, 0, 509, 511, 3, 126, -127}, {8, 1, 2, 510, 511, 2, 127, -127},
            {8, 23, 0, 0x7F7FFFFF, 0x7FC00000, 0xFFFFFF, 104, -149},
            {8, 23, 2, 0x7FFFFFFE, 0x7FFFFFFF, 0xFFFFFE, 105, -149}
        };
        for (int[] end : ends) {
            Asked a = Asked.narrow(CHECK, end[0], end[1], end[2]);
            for (int what = 0; what < 5; what++) {
                a.due(a.x.form(NARROW, what), end[what], "form", NARROW, what);
            }
            a.part(NARROW, end[3], 2, 0, end[5], end[6]);
            a.part(NARROW, end[4], 4, 0, 0, 0);
            a.part(NARROW, 1, 1, 0, 1, end[7]);
            a.part(NARROW, 0, 0, 0, 0, 0);
        }
    }

    private static void bitsOfPatterns() {
        CHECK.sentence("A PATTERN has E + F + 1 bits: a sign (1: below 0) above");
        Asked least = Asked.narrow(CHECK, 2, 1, 1);
        least.part(NARROW, 7, 4, 0);
        least.part(NARROW, 8, 0, 1);
        least.part(NARROW, 15, 4, 1);
        least.due(least.x.part(NARROW, 16, 0), 1000000, "part", NARROW, 16, 0);
        least.due(least.x.part(NARROW, -1, 0), 1000000, "part", NARROW, -1, 0);
        Asked last = Asked.narrow(CHECK, 8, 22, 0);
        last.part(NARROW, 0x3FFFFFFF, 4, 0);
        last.part(NARROW, 0x40000000, 0, 1);
        last.part(NARROW, 0x7FFFFFFF, 4, 1);
        last.due(last.x.part(NARROW, 0x80000000, 0), 1000000, "part", NARROW, 0x80000000, 0);
        Asked all = new Asked(CHECK);
        all.part(SINGLE, 0x7FFFFFFF, 4, 0);
        all.part(SINGLE, 0x80000000, 0, 1);
        all.part(SINGLE, -1, 4, 1);
    }

    private static void fromExpZeroToOne() {
        CHECK.sentence("EXP 0: FRAC times 2 to the power 1 - BIAS - F; else (2 to the F, and FRAC) ..");
        Asked a = new Asked(CHECK);
        a.part(HALF, 1, 1, 0, 1, -24);
        a.part(HALF, 1023, 1, 0, 1023, -24);
        a.part(HALF, 1024, 2, 0, 1024, -24);
        a.part(HALF, 2047, 2, 0, 2047, -24);
        a.part(HALF, 2048, 2, 0, 1024, -23);
        a.part(HALF, MINUS_ZERO + 1023, 1, 1, 1023, -24);
        a.reckon(0, 1023, 1, HALF, 0, 1024, 0);
        a.reckon(1, 1024, 1, HALF, 0, 1023, 0);
    }

    private static void kindZero() {
        CHECK.sentence("KIND 0: EXP all 1s: FRAC 0 is infinite, else no number (NAN)");
        Asked a = new Asked(CHECK);
        for (int sign = 0; sign < 2; sign++) {
            int above = sign * MINUS_ZERO;
            a.part(HALF, above + 0x7BFF, 2, sign, 2047, 5);
            a.part(HALF, above + 0x7C00, 3, sign, 0, 0);
            a.part(HALF, above + 0x7C01, 4, sign, 0, 0);
            a.part(HALF, above + 0x7FFF, 4, sign, 0, 0);
        }
    }

    private static void kindsOneAndTwo() {
        CHECK.sentence("KIND 1 and 2: NAN if EXP and FRAC are all 1s, nothing is infinite");
        for (int kind = 1; kind < 3; kind++) {
            Asked a = Asked.narrow(CHECK, 5, 10, kind);
            for (int sign = 0; sign < 2; sign++) {
                int above = sign * MINUS_ZERO;
                a.part(NARROW, above + 0x7C00, 2, sign, 1024, 6);
                a.part(NARROW, above + 0x7FFE, 2, sign, 2046, 6);
                a.part(NARROW, above + 0x7FFF, 4, sign, 0, 0);
            }
        }
    }

    private static void theNan() {
        CHECK.sentence("THE NAN that calls answer has sign 0, and FRAC just its highest bit (KIND 0) or all 1s");
        int[][] forms = {{4, 3, 0, 124}, {4, 3, 1, 127}, {4, 3, 2, 127}, {2, 1, 0, 7}, {8, 23, 2, 0x7FFFFFFF}};
        for (int[] f : forms) {
            Asked a = Asked.narrow(CHECK, f[0], f[1], f[2]);
            int nan = 0xFFFF;
            a.turn(HALF, nan, NARROW, 0, f[3], 0);
            a.due(a.x.reckon(0, HALF, nan, HALF, ONE, NARROW, 4), f[3], "reckon of NAN");
            a.due(a.x.reckon(2, HALF, nan, HALF, nan, NARROW, 4), f[3], "reckon of NANs");
            a.fused(HALF, nan, ONE, NARROW, 0, 0, f[3], 0);
            a.row(0, HALF, nan);
            a.row(1, HALF, ONE);
            for (int how = 0; how < 3; how++) {
                a.sum(0, how, NARROW, 0, f[3], 0);
            }
            a.dot(0, BRAIN, NARROW, 0, f[3], 0);
            a.dot(1, BRAIN, NARROW, 0, f[3], 0);
            a.element(NARROW, 0, f[3], 0);
        }
    }

    private static void rounded() {
        whatIsAValue();
        noGreatestExp();
        nearerOrEven();
        nearerOrFarther();
        nearerToZero();
        upper();
        lower();
    }

    private static void whatIsAValue() {
        CHECK.sentence("an exact number that is no value of it (it is INEXACT then)");
        double[] values = {LEAST, 7 * LEAST, 8 * LEAST, 1, 1.125, 1.875, 2, 448};
        int[] patterns = {1, 7, 8, 56, 57, 63, 64, 126};
        for (int i = 0; i < values.length; i++) {
            for (int way = 0; way < WAYS; way++) {
                new Asked(CHECK).turnBothSides(values[i], way, patterns[i], 0);
            }
        }
        Asked a = new Asked(CHECK);
        for (int way = 0; way < WAYS; way++) {
            a.turn(SINGLE, 0, NARROW, way, 0, 0);
            a.turn(SINGLE, 0x80000000, NARROW, way, 128, 0);
        }
        a.turn(SINGLE, Asked.single(1 + power(-23)), NARROW, 2, 56, 8);
        a.turn(SINGLE, Asked.single(1 - power(-24)), NARROW, 2, 55, 8);
    }

    /** 240 and, if there were a greater EXP, 256 are next to one another in KIND 0; 448 and 480 in KIND 1. */
    private static void noGreatestExp() {
        CHECK.sentence("becomes one of the two values next to it, as if there were no greatest EXP");
        Asked zero = Asked.narrow(CHECK, 4, 3, 0);
        zero.turnBothSides(247.5, 0, 119, 8);
        zero.turnBothSides(248.5, 0, 120, 10);
        zero.turnBothSides(255.5, 2, 119, 8);
        zero.turnBothSides(255.5, 4, 119, 8);
        zero.turnBothSides(240.5, 3, 120, 10);
        Asked one = new Asked(CHECK);
        one.turnBothSides(463.5, 0, 126, 8);
        one.turnBothSides(464.5, 0, 126, 10);
        one.turnBothSides(479.5, 2, 126, 8);
        one.turnBothSides(448.5, 3, 126, 10);
    }

    private static void nearerOrEven() {
        CHECK.sentence("WAY 0 the nearer one, of two as near that whose last bit is 0");
        Asked a = new Asked(CHECK);
        a.turnBothSides(1.0625, 0, 56, 8);
        a.turnBothSides(1.0625 - power(-23), 0, 56, 8);
        a.turnBothSides(1.0625 + power(-23), 0, 57, 8);
        a.turnBothSides(1.1875, 0, 58, 8);
        a.turnBothSides(1.1875 - power(-23), 0, 57, 8);
        a.turnBothSides(1.9375, 0, 64, 8);
        a.turnBothSides(1.9375 - power(-23), 0, 63, 8);
        a.turnBothSides(LEAST / 2, 0, 0, 12);
        a.turnBothSides(LEAST / 2 + power(-33), 0, 1, 12);
        a.turnBothSides(LEAST * 1.5, 0, 2, 12);
        a.turnBothSides(LEAST * 7.5, 0, 8, 12);
        a.turnBothSides(LEAST * 8.5, 0, 8, 8);
        a.turnBothSides(464, 0, 126, 8);
        a.turnBothSides(464 + power(-15), 0, 126, 10);
        Asked zero = Asked.narrow(CHECK, 4, 3, 0);
        zero.turnBothSides(248, 0, 120, 10);
        zero.turnBothSides(248 - power(-16), 0, 119, 8);
        // one bit more than the FORMAT has: each number is a value or a tie
        zero.x.format(BRAIN, 4, 4, 0);
        zero.turn(BRAIN, 112, NARROW, 0, 56, 0);
        zero.turn(BRAIN, 113, NARROW, 0, 56, 8);
        zero.turn(BRAIN, 115, NARROW, 0, 58, 8);
        zero.turn(BRAIN, 1, NARROW, 0, 0, 12);
        zero.turn(BRAIN, 3, NARROW, 0, 2, 12);
        zero.turn(BRAIN, 239, NARROW, 0, 120, 10);
    }

    private static void nearerOrFarther() {
        CHECK.sentence("1 the nearer one, else that farther from 0");
        Asked a = new Asked(CHECK);
        a.turnBothSides(1.0625, 1, 57, 8);
        a.turnBothSides(1.0625 - power(-23), 1, 56, 8);
        a.turnBothSides(1.0625 + power(-23), 1, 57, 8);
        a.turnBothSides(1.1875, 1, 58, 8);
        a.turnBothSides(1.1875 - power(-23), 1, 57, 8);
        a.turnBothSides(LEAST / 2, 1, 1, 12);
        a.turnBothSides(LEAST / 2 - power(-34), 1, 0, 12);
        a.turnBothSides(LEAST * 8.5, 1, 9, 8);
        a.turnBothSides(464, 1, 126, 10);
        a.turnBothSides(464 - power(-15), 1, 126, 8);
    }

    private static void nearerToZero() {
        CHECK.sentence("2 that nearer to 0");
        Asked a = new Asked(CHECK);
        a.turnBothSides(1.125 - power(-23), 2, 56, 8);
        a.turnBothSides(1 + power(-23), 2, 56, 8);
        a.turnBothSides(1 - power(-24), 2, 55, 8);
        a.turnBothSides(LEAST - power(-33), 2, 0, 12);
        a.turnBothSides(LEAST * 8 - power(-30), 2, 7, 12);
        a.turnBothSides(480 - power(-15), 2, 126, 8);
    }

    private static void upper() {
        CHECK.sentence("3 the upper one");
        Asked a = new Asked(CHECK);
        a.turn(SINGLE, Asked.single(1 + power(-23)), NARROW, 3, 57, 8);
        a.turn(SINGLE, Asked.single(-1 - power(-23)), NARROW, 3, 184, 8);
        a.turn(SINGLE, Asked.single(-1.125 + power(-23)), NARROW, 3, 184, 8);
        a.turn(SINGLE, 1, NARROW, 3, 1, 12);
        a.turn(SINGLE, 0x80000001, NARROW, 3, 128, 12);
        a.turn(SINGLE, Asked.single(-LEAST + power(-33)), NARROW, 3, 128, 12);
    }

    private static void lower() {
        CHECK.sentence("4 the lower one");
        Asked a = new Asked(CHECK);
        a.turn(SINGLE, Asked.single(-1 - power(-23)), NARROW, 4, 185, 8);
        a.turn(SINGLE, Asked.single(1 + power(-23)), NARROW, 4, 56, 8);
        a.turn(SINGLE, Asked.single(1.125 - power(-23)), NARROW, 4, 56, 8);
        a.turn(SINGLE, 0x80000001, NARROW, 4, 129, 12);
        a.turn(SINGLE, 1, NARROW, 4, 0, 12);
        a.turn(SINGLE, Asked.single(LEAST - power(-33)), NARROW, 4, 0, 12);
    }

    private static void drawn() {
        drawnAgainstTheWay();
        drawnFarBelow();
        stateGoesRound();
        drawnWhereInexact();
    }

    /** From 1 on FORMAT 3's values are 2 to the power 20 PATTERNS of FORMAT 2 apart: 16 for each of 65536 parts. */
    private static void drawnAgainstTheWay() {
        CHECK.sentence("the one farther from 0, if a drawn number (0 .. 65535) is less than the whole part of ..");
        int[] numbers = {0, 1, 2, 3016, 32767, 32768, 65534, 65535};
        for (int number : numbers) {
            goes(number, 1, false);
            goes(number, 16 * number, false);
            goes(number, 16 * number + 15, false);
            if (number < 65535) {
                goes(number, 16 * number + 16, true);
                goes(number, 0xFFFFF, true);
            }
        }
    }

    private static void goes(int number, int steps, boolean far) {
        if (steps == 0) {
            return;
        }
        // bits below and above the number count for nothing
        int[] states = {16 * number + 15, 16 * number + (1 << 20), 16 * number + (2046 << 20) + 7};
        for (int state : states) {
            Asked a = new Asked(CHECK);
            for (int sign = 0; sign < 2; sign++) {
                a.x.seed(Asked.stateBefore(state));
                int from = Asked.single(1) + steps + (sign << 31);
                a.turn(SINGLE, from, NARROW, 5, 128 * sign + (far ? 57 : 56), 8);
                a.state(state);
            }
        }
    }

    private static void drawnFarBelow() {
        CHECK.sentence("65536 times how far it is from the one nearer to 0 in parts of the way");
        double part = LEAST / 65536;
        int[][] dues = {{0, 1}, {1, 0}};
        for (int[] due : dues) {
            Asked a = new Asked(CHECK);
            a.x.seed(Asked.stateBefore(16 * due[0] + 5));
            a.turn(SINGLE, Asked.single(part), NARROW, 5, due[1], 12);
            a.x.seed(Asked.stateBefore(16 * due[0] + 5));
            a.turn(SINGLE, Asked.single(part - power(-49)), NARROW, 5, 0, 12);
            a.state(16 * due[0] + 5);
            a.x.seed(Asked.stateBefore(16 * due[0] + 5));
            a.turn(SINGLE, 0x80000001, NARROW, 5, 128, 12);
            a.state(16 * due[0] + 5);
            a.x.seed(Asked.stateBefore(16 * due[0] + 5));
            a.due(a.x.reckon(2, SINGLE, 1, SINGLE, 1, NARROW, 5), 0, "the least product of all");
            a.state(16 * due[0] + 5);
        }
    }

    private static void stateGoesRound() {
        CHECK.sentence("a state, at first 1, becomes state times 48271 modulo 2147483647");
        Asked a = new Asked(CHECK);
        int[] states = {1, 48271, 182605794};
        for (int state : states) {
            a.state(state);
            a.turn(SINGLE, Asked.single(1) + 1, NARROW, 5, 56, 8);
        }
        a.x.seed(2147483646);
        a.turn(SINGLE, Asked.single(1) + 16 * 62519, NARROW, 5, 56, 8);
        a.state(2147435376);
        a.x.seed(2147483646);
        a.turn(SINGLE, Asked.single(1) + 16 * 62520, NARROW, 5, 57, 8);
        a.x.seed(Asked.stateBefore(2147483646));
        a.turn(SINGLE, Asked.single(1) + 0xFFFFF, NARROW, 5, 56, 8);
        a.state(2147483646);
    }

    private static void drawnWhereInexact() {
        CHECK.sentence("only where something is INEXACT");
        Asked a = new Asked(CHECK);
        a.turn(HALF, ONE, NARROW, 5, 56, 0);
        a.turn(HALF, MINUS_ZERO, NARROW, 5, 128, 0);
        a.turn(HALF, INF, NARROW, 5, 126, 0);
        a.turn(HALF, NAN, NARROW, 5, 127, 0);
        a.reckon(0, ONE, ONE, HALF, 5, 0x4000, 0);
        a.reckon(1, INF, INF, HALF, 5, NAN, 1);
        a.reckon(1, ONE, ONE, HALF, 5, 0, 0);
        for (int way = 0; way < 5; way++) {
            a.x.turn(HALF, ONE + 1, NARROW, way);
            a.x.kept(NARROW, HALF, way);
        }
        a.row(0, HALF, ONE + 1);
        a.row(1, HALF, ONE);
        a.x.element(NARROW, 0);
        a.x.step(ONE + 1);
        a.state(1);
        a.x.flags();
        // as if there were no greatest EXP this is a value, so that there is nothing to draw for
        a.turn(SINGLE, Asked.single(65536), HALF, 5, INF, 10);
        a.state(1);
        a.turn(SINGLE, Asked.single(65536 + 1), HALF, 5, INF, 10);
        a.state(48271);
    }

    private static void overflow() {
        whereItBegins();
        ofKindZero();
        ofKindOne();
        ofKindTwo();
        infiniteOnes();
    }

    private static void whereItBegins() {
        CHECK.sentence("If what comes would be, as a PATTERN, that of what is infinite or NAN, or one above: OVERFLOW");
        double[][] edges = {{240, 256, 288}, {448, 480, 512}, {448, 480, 512}};
        for (int kind = 0; kind < 3; kind++) {
            int last = kind == 0 ? 119 : 126;
            for (int way = 0; way < WAYS; way++) {
                Asked a = Asked.narrow(CHECK, 4, 3, kind);
                a.turnBothSides(edges[kind][0], way, last, 0);
                a.turnBothSides(edges[kind][0] - 0.25, 1, last, 8);
                for (int i = 1; i < 3; i++) {
                    a.x.turn(SINGLE, Asked.single(edges[kind][i]), NARROW, way);
                    a.flags(10);
                    a.x.turn(SINGLE, Asked.single(-edges[kind][i]), NARROW, way);
                    a.flags(10);
                }
            }
        }
    }

    private static void ofKindZero() {
        CHECK.sentence("KIND 0: infinite, but the greatest value (with the sign) in WAY 2, below 0 in WAY 3, above 0 in 4");
        int[] above = {120, 120, 119, 120, 119, 120};
        int[] below = {248, 248, 247, 247, 248, 248};
        double[] values = {256, 257, 288, power(127)};
        for (int way = 0; way < WAYS; way++) {
            Asked a = Asked.narrow(CHECK, 4, 3, 0);
            for (double value : values) {
                a.turn(SINGLE, Asked.single(value), NARROW, way, above[way], 10);
                a.turn(SINGLE, Asked.single(-value), NARROW, way, below[way], 10);
            }
        }
        Asked a = new Asked(CHECK);
        int most = 0x7F7FFFFF;
        a.reckon(0, most, most, SINGLE, 0, 0x7F800000, 10);
        a.reckon(2, most, most | 0x80000000, SINGLE, 3, 0xFF7FFFFFL, 10);
        a.reckon(2, most, most | 0x80000000, SINGLE, 4, 0xFF800000L, 10);
    }

    private static void ofKindOne() {
        CHECK.sentence("KIND 1 the greatest value");
        double[] values = {480, 481, 512, power(127)};
        for (int way = 0; way < WAYS; way++) {
            Asked a = new Asked(CHECK);
            for (double value : values) {
                a.turn(SINGLE, Asked.single(value), NARROW, way, 126, 10);
                a.turn(SINGLE, Asked.single(-value), NARROW, way, 254, 10);
            }
        }
    }

    private static void ofKindTwo() {
        CHECK.sentence("KIND 2 NAN");
        double[] values = {480, 481, 512, power(127)};
        for (int way = 0; way < WAYS; way++) {
            Asked a = Asked.narrow(CHECK, 4, 3, 2);
            for (double value : values) {
                a.turn(SINGLE, Asked.single(value), NARROW, way, 127, 10);
                a.turn(SINGLE, Asked.single(-value), NARROW, way, 127, 10);
            }
        }
    }

    private static void infiniteOnes() {
        CHECK.sentence("(So it is of an infinite number into KIND 1 or 2, too, but it is no OVERFLOW then, nor INEXACT.)");
        for (int kind = 1; kind < 3; kind++) {
            int above = kind == 1 ? 126 : 127;
            int below = kind == 1 ? 254 : 127;
            for (int way = 0; way < WAYS; way++) {
                Asked a = Asked.narrow(CHECK, 4, 3, kind);
                a.turn(HALF, INF, NARROW, way, above, 0);
                a.turn(HALF, MINUS_INF, NARROW, way, below, 0);
                a.fused(HALF, INF, 0xBC00, NARROW, 0, way, below, 0);
                a.row(0, HALF, MINUS_INF);
                a.row(1, HALF, 0xBC00);
                a.sum(0, 2, NARROW, way, below, 0);
                a.dot(0, HALF, NARROW, way, above, 0);
                a.element(NARROW, 0, below, 0);
            }
        }
    }

    private static void flags() {
        flagsStay();
        overflowIsInexact();
        underflow();
    }

    private static void flagsStay() {
        CHECK.sentence("FLAGS stay on till they are told");
        Asked a = new Asked(CHECK);
        a.x.reckon(1, HALF, INF, HALF, INF, HALF, 0);
        a.x.turn(HALF, ONE, NARROW, 0);
        a.x.compare(HALF, NAN, HALF, NAN);
        a.flags(1);
        a.flags(0);
        a.x.turn(SINGLE, 1, NARROW, 0);
        a.x.turn(HALF, ONE + 1, NARROW, 0);
        a.flags(12);
        a.x.turn(SINGLE, Asked.single(512), NARROW, 0);
        a.x.turn(SINGLE, 1, NARROW, 0);
        a.x.clear(0, 1);
        a.flags(14);
        a.flags(0);
    }

    private static void overflowIsInexact() {
        CHECK.sentence("2 OVERFLOW (8, too)");
        Asked a = new Asked(CHECK);
        for (int way = 0; way < WAYS; way++) {
            a.x.turn(SINGLE, Asked.single(512), NARROW, way);
            a.flags(10);
            a.x.turn(SINGLE, Asked.single(65536), HALF, way);
            a.flags(10);
        }
    }

    private static void underflow() {
        CHECK.sentence("4 UNDERFLOW: INEXACT, and the exact number nearer to 0 than 2 to the power 1 - BIAS");
        Asked a = new Asked(CHECK);
        a.turnBothSides(LEAST * 8, 0, 8, 0);
        a.turnBothSides(LEAST * 8 - power(-30), 0, 8, 12);
        a.turnBothSides(LEAST * 8 - power(-30), 3, 8, 12);
        a.turnBothSides(LEAST * 8 + power(-29), 0, 8, 8);
        a.turnBothSides(LEAST * 8 + power(-29), 3, 9, 8);
        a.turnBothSides(LEAST * 7, 0, 7, 0);
        a.turnBothSides(LEAST, 0, 1, 0);
        a.turnBothSides(power(-149), 0, 0, 12);
        // 2 to the power -126 is a product; the next smaller one of 1 - 2^-24 and it is none of FORMAT 2
        a.reckon(2, 0x00800000, 0x3F800000, SINGLE, 0, 0x00800000, 0);
        a.reckon(2, 0x00800000, 0x3F7FFFFF, SINGLE, 0, 0x00800000, 12);
        a.reckon(2, 0x00800000, 0x3F7FFFFF, SINGLE, 2, 0x007FFFFF, 12);
        a.reckon(1, 0x00800000, 1, SINGLE, 0, 0x007FFFFF, 0);
    }

    private static void sums() {
        exactAndRoundedOnce();
        farApart();
        nanFirst();
        invalid();
        infiniteIfOneIs();
        zerosOfOneSign();
        otherZeros();
        signsOfProducts();
        withoutTerms();
        roundedToZero();
    }

    private static void exactAndRoundedOnce() {
        CHECK.sentence("A SUM of terms (values, or products of two) is exact and ROUNDED once");
        Asked a = new Asked(CHECK);
        int huge = Asked.single(power(127));
        a.row(1, SINGLE, huge, 1, huge | 0x80000000);
        a.sum(1, 2, SINGLE, 0, 1, 0);
        // 1 and half of the way to the next one, and the least bit on either side of that
        a.row(1, SINGLE, Asked.single(1), Asked.single(power(-24)), 1);
        a.sum(1, 2, SINGLE, 0, 0x3F800001, 8);
        a.row(1, SINGLE, Asked.single(1), Asked.single(power(-24)), 0x80000001);
        a.sum(1, 2, SINGLE, 1, 0x3F800000, 8);
        a.row(0, SINGLE, 1, huge, huge);
        a.row(1, SINGLE, 1, huge, huge | 0x80000000);
        a.dot(0, 0, SINGLE, 3, 1, 12);
        a.dot(0, 0, SINGLE, 0, 0, 12);
        a.fused(SINGLE, huge, Asked.single(2), SINGLE, huge | 0x80000000, 0, huge, 0);
        a.fused(SINGLE, 1, 1, SINGLE, huge, 4, huge, 8);
        a.fused(SINGLE, 1, 0x80000001, SINGLE, huge, 4, huge - 1, 8);
        // what was left over in one SUM says nothing of the next
        a.reckon(2, ONE, ONE, HALF, 0, ONE, 0);
    }

    /** A tie of FORMAT 2, or of what FORMAT 3 has least, and a bit on either side of it, however far below. */
    private static void farApart() {
        CHECK.sentence("A SUM of terms .. is exact, from the greatest value to the least");
        for (int below = 25; below <= 276; below++) {
            Asked a = new Asked(CHECK);
            int tail = Asked.single(power(127 - below));
            a.row(1, SINGLE, Asked.single(power(127)), Asked.single(power(103)), tail);
            a.sum(1, 2, SINGLE, 0, Asked.single(power(127)) + 1, 8);
            a.row(1, SINGLE, Asked.single(power(127)), Asked.single(power(103)), tail | 0x80000000);
            a.sum(1, 2, SINGLE, 1, Asked.single(power(127)), 8);
        }
        for (int below = 11; below <= 149; below++) {
            Asked a = new Asked(CHECK);
            int tail = Asked.single(power(-below));
            a.row(1, SINGLE, Asked.single(LEAST / 2), tail);
            a.sum(1, 2, NARROW, 0, 1, 12);
            a.row(1, SINGLE, Asked.single(LEAST / 2), tail | 0x80000000);
            a.sum(1, 2, NARROW, 1, 0, 12);
        }
    }

    private static void nanFirst() {
        CHECK.sentence("NAN, if a value in it is; else NAN, and INVALID, if ..");
        Asked a = new Asked(CHECK);
        a.fused(HALF, 0, INF, HALF, 0x7C01, 0, NAN, 0);
        a.fused(HALF, INF, 0x7C01, HALF, MINUS_INF, 0, NAN, 0);
        a.reckon(2, NAN, 0, HALF, 0, NAN, 0);
        a.reckon(2, INF, 0xFFFF, HALF, 0, NAN, 0);
        a.reckon(0, 0xFFFF, INF, HALF, 0, NAN, 0);
        a.row(0, HALF, INF, MINUS_INF, NAN);
        a.sum(0, 2, HALF, 0, NAN, 0);
        a.row(0, HALF, 0, INF, ONE);
        a.row(1, HALF, INF, ONE, NAN);
        a.dot(0, HALF, HALF, 0, NAN, 0);
    }

    private static void invalid() {
        CHECK.sentence("NAN, and INVALID, if a product is of 0 and infinite, or there are infinite terms of both signs");
        int[] zeros = {0, MINUS_ZERO};
        int[] infinite = {INF, MINUS_INF};
        Asked a = new Asked(CHECK);
        for (int zero : zeros) {
            for (int inf : infinite) {
                a.reckon(2, zero, inf, HALF, 0, NAN, 1);
                a.reckon(2, inf, zero, HALF, 0, NAN, 1);
                a.fused(HALF, zero, inf, HALF, ONE, 0, NAN, 1);
                a.fused(HALF, inf, zero, HALF, inf, 0, NAN, 1);
            }
        }
        a.reckon(0, INF, MINUS_INF, HALF, 0, NAN, 1);
        a.reckon(0, MINUS_INF, INF, HALF, 0, NAN, 1);
        a.reckon(1, MINUS_INF, MINUS_INF, HALF, 0, NAN, 1);
        a.fused(HALF, INF, ONE, HALF, MINUS_INF, 0, NAN, 1);
        a.fused(HALF, INF, 0xBC00, HALF, INF, 0, NAN, 1);
        a.row(0, HALF, INF, ONE, MINUS_INF);
        a.sum(0, 2, HALF, 0, NAN, 1);
        a.due(a.x.reckon(0, HALF, INF, HALF, MINUS_INF, NARROW, 0), 127, "invalid into KIND 1");
        a.flags(1);
        // the next SUM is none
        a.reckon(0, ONE, ONE, HALF, 0, 0x4000, 0);
        a.reckon(2, 0, INF, HALF, 0, NAN, 1);
        a.reckon(2, ONE, ONE, HALF, 0, ONE, 0);
        a.reckon(0, NAN, ONE, HALF, 0, NAN, 0);
        a.reckon(2, ONE, ONE, HALF, 0, ONE, 0);
    }

    private static void infiniteIfOneIs() {
        CHECK.sentence("else infinite, if one is");
        Asked a = new Asked(CHECK);
        for (int way = 0; way < WAYS; way++) {
            a.reckon(0, INF, 0xFBFF, HALF, way, INF, 0);
            a.reckon(0, 0x7BFF, MINUS_INF, HALF, way, MINUS_INF, 0);
            a.reckon(1, INF, MINUS_INF, HALF, way, INF, 0);
            a.reckon(2, INF, 0x8001, HALF, way, MINUS_INF, 0);
            a.reckon(2, MINUS_INF, MINUS_INF, HALF, way, INF, 0);
            a.fused(HALF, 0x7BFF, 0x7BFF, HALF, MINUS_INF, way, MINUS_INF, 0);
        }
    }

    private static void zerosOfOneSign() {
        CHECK.sentence("If it is 0: the sign that all terms have, if these are all 0 and have one");
        for (int way = 0; way < WAYS; way++) {
            Asked a = new Asked(CHECK);
            a.reckon(0, 0, 0, HALF, way, 0, 0);
            a.reckon(0, MINUS_ZERO, MINUS_ZERO, HALF, way, MINUS_ZERO, 0);
            a.reckon(1, MINUS_ZERO, 0, HALF, way, MINUS_ZERO, 0);
            a.reckon(1, 0, MINUS_ZERO, HALF, way, 0, 0);
            a.fused(HALF, 0, ONE, HALF, 0, way, 0, 0);
            a.fused(HALF, MINUS_ZERO, ONE, HALF, MINUS_ZERO, way, MINUS_ZERO, 0);
            a.rowOf(0, HALF, 32, MINUS_ZERO);
            a.sum(0, 2, HALF, way, MINUS_ZERO, 0);
            a.rowOf(0, HALF, 32, 0);
            a.sum(0, 2, HALF, way, 0, 0);
        }
    }

    private static void otherZeros() {
        CHECK.sentence("else + , in WAY 4 -");
        for (int way = 0; way < WAYS; way++) {
            int due = way == 4 ? MINUS_ZERO : 0;
            Asked a = new Asked(CHECK);
            a.reckon(0, 0, MINUS_ZERO, HALF, way, due, 0);
            a.reckon(0, MINUS_ZERO, 0, HALF, way, due, 0);
            a.reckon(0, ONE, 0xBC00, HALF, way, due, 0);
            a.reckon(1, 0xBC00, 0xBC00, HALF, way, due, 0);
            a.fused(HALF, ONE, 0xBC00, HALF, ONE, way, due, 0);
            a.row(0, HALF, MINUS_ZERO, ONE, 0xBC00, MINUS_ZERO);
            a.sum(0, 2, HALF, way, due, 0);
            a.row(0, HALF, 0, 0, MINUS_ZERO);
            a.sum(0, 2, HALF, way, due, 0);
        }
    }

    private static void signsOfProducts() {
        CHECK.sentence("Products have signs as factors do");
        for (int way = 0; way < WAYS; way++) {
            Asked a = new Asked(CHECK);
            a.reckon(2, 0, ONE, HALF, way, 0, 0);
            a.reckon(2, 0, 0xBC00, HALF, way, MINUS_ZERO, 0);
            a.reckon(2, ONE, MINUS_ZERO, HALF, way, MINUS_ZERO, 0);
            a.reckon(2, MINUS_ZERO, 0xBC00, HALF, way, 0, 0);
            a.reckon(2, MINUS_ZERO, MINUS_ZERO, HALF, way, 0, 0);
            a.fused(HALF, MINUS_ZERO, MINUS_ZERO, HALF, MINUS_ZERO, way, way == 4 ? MINUS_ZERO : 0, 0);
            a.reckon(2, ONE, 0xBC00, HALF, way, 0xBC00, 0);
            a.reckon(2, 0xBC00, 0xBC00, HALF, way, ONE, 0);
        }
    }

    private static void withoutTerms() {
        CHECK.sentence("without terms +0");
        for (int way = 0; way < WAYS; way++) {
            Asked a = new Asked(CHECK);
            a.sum(0, 2, HALF, way, 0, 0);
            a.dot(0, HALF, HALF, way, 0, 0);
            a.row(1, SINGLE, 0x80000000);
            a.dot(0, HALF, SINGLE, way, 0, 0);
        }
    }

    private static void roundedToZero() {
        CHECK.sentence("What is ROUNDED to 0 keeps its sign");
        Asked a = new Asked(CHECK);
        int[] ways = {0, 1, 2, 4};
        for (int way : ways) {
            a.turn(SINGLE, 1, NARROW, way, 0, 12);
            a.reckon(2, 1, 1, HALF, way, 0, 12);
        }
        int[] others = {0, 1, 2, 3};
        for (int way : others) {
            a.turn(SINGLE, 0x80000001, NARROW, way, 128, 12);
            a.reckon(2, 1, 0x8001, HALF, way, MINUS_ZERO, 12);
            a.fused(HALF, 0x8001, 1, HALF, 0, way, MINUS_ZERO, 12);
        }
        a.x.seed(Asked.stateBefore(1));
        a.turn(SINGLE, 0x80000001, NARROW, 5, 128, 12);
    }
}
