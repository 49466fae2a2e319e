/** The edges that each promise names in its own sentences, promise by promise. */
public final class EdgesOfCallsTest {
    private static final Check CHECK = new Check("EdgesOfCallsTest");
    private static final int BAD = -2, APART = 1000000, FULL = -3;
    private static final int HALF = Asked.HALF, BRAIN = Asked.BRAIN, SINGLE = Asked.SINGLE, NARROW = Asked.NARROW;
    private static final int ONE = 0x3C00, MINUS_ONE = 0xBC00, TWO = 0x4000, NAN = 0x7E00;
    private static final int INF = 0x7C00, MINUS_INF = 0xFC00, MINUS_ZERO = 0x8000;
    private static final int WAYS = 6;

    public static void main(String[] args) {
        newObject();
        lastOfManyCalls();
        formatOfRows();
        formOfEach();
        sortsOfPart();
        bitsOfTurn();
        reckonOtherSign();
        fusedFormats();
        comparing();
        flagsAreOff();
        seedBounds();
        clearing();
        pushing();
        placesOfAt();
        counts();
        sumOfEachRow();
        dotPieces();
        scaleApart();
        elementPlaces();
        scalerBounds();
        stepAnswers();
        kept();
        CHECK.finish();
    }

    private static void newObject() {
        CHECK.sentence("Promise 1: FORMATS .. ; X in FORMAT 0, Y in 2, without PATTERNS; no FLAGS; S 0, STREAK 0, G 3");
        // what one object has become says nothing of another
        Asked used = new Asked(CHECK);
        used.x.format(NARROW, 2, 1, 0);
        used.row(0, BRAIN, 1);
        used.row(1, NARROW, 7);
        used.x.scaler(5, 6);
        used.x.seed(9);
        used.x.turn(HALF, ONE + 1, NARROW, 0);
        Asked a = new Asked(CHECK);
        int[][] forms = {{5, 10, 0}, {8, 7, 0}, {8, 23, 0}, {4, 3, 1}};
        for (int k = 0; k < 4; k++) {
            for (int what = 0; what < 3; what++) {
                a.due(a.x.form(k, what), forms[k][what], "form", k, what);
            }
        }
        a.at(0);
        a.at(1);
        a.due(a.x.count(2), HALF, "count", 2);
        a.due(a.x.count(3), SINGLE, "count", 3);
        a.scaler(0, 0, 3);
        a.flags(0);
        a.state(1);
    }

    private static void lastOfManyCalls() {
        CHECK.sentence("An object is used for at most 512 calls after it has been made");
        Asked a = new Asked(CHECK);
        for (int i = 0; i < 509; i++) {
            a.x.turn(SINGLE, Asked.single(1) + 1, NARROW, 5);
        }
        long state = 1;
        for (int i = 0; i < 509; i++) {
            state = state * 48271 % 2147483647;
        }
        CHECK.due("call 510", a.x.flags(), 8);
        CHECK.due("call 511", a.x.seed(3), state);
        CHECK.due("call 512", a.x.turn(HALF, ONE, NARROW, 0), 56);
    }

    private static void formatOfRows() {
        CHECK.sentence("Promise 2: BAD: also k is that of X or Y, if there are PATTERNS in it");
        Asked a = new Asked(CHECK);
        a.due(a.x.format(HALF, 2, 1, 0), 1, "format of an empty X");
        a.due(a.x.push(0, 16), BAD, "push", 0, 16);
        a.due(a.x.push(0, 15), 1, "push", 0, 15);
        a.due(a.x.format(HALF, 2, 1, 0), BAD, "format of X, as it is");
        a.due(a.x.format(HALF, 8, 23, 1), BAD, "format of X");
        a.due(a.x.form(HALF, 0), 2, "form", HALF, 0);
        a.due(a.x.format(SINGLE, 2, 2, 2), 1, "format of an empty Y");
        a.due(a.x.push(1, 31), 1, "push", 1, 31);
        a.due(a.x.format(SINGLE, 2, 3, 2), BAD, "format of Y");
        a.due(a.x.format(BRAIN, 2, 3, 2), 1, "format of no row");
        a.due(a.x.clear(0, SINGLE), 1, "clear", 0, SINGLE);
        a.due(a.x.format(HALF, 5, 10, 0), 1, "format that was X's");
        a.due(a.x.format(SINGLE, 2, 3, 2), BAD, "format of an empty X and of Y");
        a.due(a.x.clear(1, SINGLE), 1, "clear", 1, SINGLE);
        a.due(a.x.format(SINGLE, 2, 3, 2), 1, "format of both, empty");
        a.due(a.x.push(0, 63), 1, "push", 0, 63);
        a.due(a.x.format(SINGLE, 2, 3, 1), BAD, "format of X and of an empty Y");
    }

    private static void formOfEach() {
        CHECK.sentence("Promise 3: 3 the PATTERN of the greatest value, 4 the NAN");
        int[][] dues = {{5, 2, 0, 123, 126}, {5, 2, 1, 126, 127}, {5, 2, 2, 126, 127}, {3, 1, 0, 13, 15}};
        for (int[] d : dues) {
            Asked a = Asked.narrow(CHECK, d[0], d[1], d[2]);
            a.due(a.x.form(NARROW, 3), d[3], "form", NARROW, 3);
            a.due(a.x.form(NARROW, 4), d[4], "form", NARROW, 4);
            a.due(a.x.part(NARROW, d[3], 0), 2, "part", NARROW, d[3], 0);
            a.due(a.x.part(NARROW, d[3] + 1, 0), d[2] == 0 ? 3 : 4, "part", NARROW, d[3] + 1, 0);
            a.due(a.x.part(NARROW, d[4], 0), 4, "part", NARROW, d[4], 0);
            a.due(a.x.form(NARROW, -1), BAD, "form", NARROW, -1);
            a.due(a.x.form(NARROW, 5), BAD, "form", NARROW, 5);
        }
    }

    private static void sortsOfPart() {
        CHECK.sentence("Promise 4: sort (0 zero, 1 EXP 0, 2 others, 3 infinite, 4 NAN) .. (2 and 3: 0 of sorts 0, 3, 4)");
        Asked a = new Asked(CHECK);
        for (int sign = 0; sign < 2; sign++) {
            int bit = sign << 31;
            a.part(SINGLE, bit, 0, sign, 0, 0);
            a.part(SINGLE, bit | 1, 1, sign, 1, -149);
            a.part(SINGLE, bit | 0x7FFFFF, 1, sign, 0x7FFFFF, -149);
            a.part(SINGLE, bit | 0x800000, 2, sign, 0x800000, -149);
            a.part(SINGLE, bit | 0x7F7FFFFF, 2, sign, 0xFFFFFF, 104);
            a.part(SINGLE, bit | 0x7F800000, 3, sign, 0, 0);
            a.part(SINGLE, bit | 0x7F800001, 4, sign, 0, 0);
            a.part(SINGLE, bit | 0x7FFFFFFF, 4, sign, 0, 0);
        }
        a.due(a.x.part(3, 128 | 60, 3), -3, "part", 3, 188, 3);
        // a power that is -2 is no refusal
        a.due(a.x.part(3, 64, 3), -2, "part", 3, 64, 3);
        a.due(a.x.part(3, 64, 4), APART, "part", 3, 64, 4);
        a.due(a.x.part(3, 64, -1), APART, "part", 3, 64, -1);
        a.due(a.x.part(3, 256, 0), APART, "part", 3, 256, 0);
    }

    private static void bitsOfTurn() {
        CHECK.sentence("Promise 5: as all answers below that are PATTERNS: its bits as a long");
        Asked a = new Asked(CHECK);
        long minusZero = 0x80000000L;
        a.turn(HALF, MINUS_ZERO, SINGLE, 0, minusZero, 0);
        a.turn(SINGLE, 0xFF7FFFFF, SINGLE, 0, 0xFF7FFFFFL, 0);
        a.reckon(0, 0x80000000, 0x80000000, SINGLE, 0, minusZero, 0);
        a.fused(HALF, MINUS_ZERO, ONE, SINGLE, 0x80000000, 0, minusZero, 0);
        a.row(1, SINGLE, 0x80000000);
        a.due(a.x.at(1, 0), minusZero, "at", 1, 0);
        for (int how = 0; how < 3; how++) {
            a.sum(1, how, SINGLE, 0, minusZero, 0);
        }
        a.row(0, HALF, ONE);
        a.dot(0, HALF, SINGLE, 0, minusZero, 0);
        a.dot(1, HALF, SINGLE, 4, minusZero, 0);
        a.row(0, HALF, MINUS_ZERO);
        a.element(SINGLE, 0, minusZero, 0);
        a.turn(SINGLE, -1, SINGLE, 0, 0x7FC00000, 0);
    }

    private static void reckonOtherSign() {
        CHECK.sentence("Promise 6: 1 a and b with the other sign");
        Asked a = new Asked(CHECK);
        for (int way = 0; way < WAYS; way++) {
            int mixed = way == 4 ? MINUS_ZERO : 0;
            a.reckon(1, ONE, MINUS_ONE, HALF, way, TWO, 0);
            a.reckon(1, 0, 0, HALF, way, mixed, 0);
            a.reckon(1, MINUS_ZERO, MINUS_ZERO, HALF, way, mixed, 0);
            a.reckon(1, MINUS_ZERO, 0, HALF, way, MINUS_ZERO, 0);
            a.reckon(1, ONE, INF, HALF, way, MINUS_INF, 0);
            a.reckon(1, INF, INF, HALF, way, NAN, 1);
            a.reckon(1, INF, NAN, HALF, way, NAN, 0);
        }
        CHECK.sentence("Promise 6: a of FORMAT k, b of m, into n");
        a.due(a.x.reckon(0, NARROW, 255, HALF, 65535, SINGLE, 0), 0x7FC00000, "reckon of NANs");
        a.due(a.x.reckon(0, NARROW, 56, SINGLE, Asked.single(2), HALF, 0), 0x4200, "1 and 2");
        a.due(a.x.reckon(1, NARROW, 56, SINGLE, Asked.single(2), HALF, 0), MINUS_ONE, "1 less 2");
        a.due(a.x.reckon(2, SINGLE, Asked.single(448), NARROW, 56, NARROW, 0), 126, "448 times 1");
        a.due(a.x.reckon(0, NARROW, 256, SINGLE, 0, HALF, 0), BAD, "256 of FORMAT 3");
        a.due(a.x.reckon(0, SINGLE, 256, NARROW, 256, HALF, 0), BAD, "256 of FORMAT 3");
    }

    private static void fusedFormats() {
        CHECK.sentence("Promise 7: The product of a and b (FORMAT k) and c (FORMAT n), SUM, into n");
        Asked a = new Asked(CHECK);
        a.fused(NARROW, 56, 64, HALF, ONE, 0, 0x4200, 0);
        a.fused(HALF, ONE, TWO, NARROW, 56, 0, 68, 0);
        a.fused(HALF, 65535, 65535, NARROW, 255, 0, 127, 0);
        a.due(a.x.fused(NARROW, 256, 56, HALF, ONE, 0), BAD, "a of other bits");
        a.due(a.x.fused(NARROW, 56, 256, HALF, ONE, 0), BAD, "b of other bits");
        a.due(a.x.fused(HALF, ONE, ONE, NARROW, 256, 0), BAD, "c of other bits");
        a.fused(HALF, ONE + 1, ONE + 1, HALF, ONE + 2 + MINUS_ZERO, 0, 0x0010, 0);
    }

    private static void comparing() {
        CHECK.sentence("Promise 8: -1 less, 0 alike, 1 greater, 2 one is NAN");
        Asked a = new Asked(CHECK);
        int[][] dues = {
            {HALF, 0, HALF, MINUS_ZERO, 0}, {HALF, MINUS_ZERO, SINGLE, 0, 0}, {HALF, 1, HALF, 0, 1},
            {HALF, MINUS_ZERO + 1, HALF, MINUS_ZERO, -1}, {HALF, INF, SINGLE, 0x7F800000, 0},
            {HALF, MINUS_INF, BRAIN, 0xFF80, 0}, {HALF, INF, HALF, MINUS_INF, 1}, {HALF, MINUS_INF, HALF, INF, -1},
            {HALF, INF, SINGLE, 0x7F7FFFFF, 1}, {HALF, MINUS_INF, SINGLE, 0xFF7FFFFF, -1},
            {SINGLE, 1, HALF, 1, -1}, {SINGLE, 0x33800000, HALF, 1, 0}, {SINGLE, 0x33800001, HALF, 1, 1},
            {SINGLE, 0x7F7FFFFF, SINGLE, 0x7F7FFFFE, 1}, {SINGLE, 0xFF7FFFFF, SINGLE, 0xFF7FFFFE, -1},
            {HALF, 0x7C01, HALF, ONE, 2}, {HALF, ONE, HALF, 0xFFFF, 2}, {HALF, NAN, HALF, NAN, 2},
            {NARROW, 127, HALF, INF, 2}, {NARROW, 126, SINGLE, Asked.single(448), 0}
        };
        for (int[] d : dues) {
            a.due(a.x.compare(d[0], d[1], d[2], d[3]), d[4], "compare", d[0], d[1], d[2], d[3]);
        }
        a.flags(0);
        a.due(a.x.compare(HALF, 65536, HALF, 0), -2, "compare", HALF, 65536, HALF, 0);
        a.due(a.x.compare(HALF, NAN, NARROW, 256), -2, "compare", HALF, NAN, NARROW, 256);
    }

    private static void flagsAreOff() {
        CHECK.sentence("Promise 9: FLAGS, which are off then");
        Asked a = new Asked(CHECK);
        a.flags(0);
        a.x.turn(SINGLE, 0x7F7FFFFF, NARROW, 0);
        a.x.turn(SINGLE, 1, NARROW, 0);
        a.x.reckon(2, HALF, 0, HALF, INF, HALF, 0);
        a.flags(15);
        a.flags(0);
        a.x.turn(HALF, ONE + 1, NARROW, 0);
        a.flags(8);
        a.flags(0);
    }

    private static void seedBounds() {
        CHECK.sentence("Promise 10: becomes s, 1 .. 2147483646: what it was");
        Asked a = new Asked(CHECK);
        a.due(a.x.seed(0), BAD, "seed", 0);
        a.due(a.x.seed(2147483647), BAD, "seed", 2147483647);
        a.due(a.x.seed(-1), BAD, "seed", -1);
        a.due(a.x.seed(2147483646), 1, "seed", 2147483646);
        a.due(a.x.seed(1), 2147483646, "seed", 1);
        a.due(a.x.seed(2), 1, "seed", 2);
        a.due(a.x.seed(2), 2, "seed", 2);
    }

    private static void clearing() {
        CHECK.sentence("Promise 11: Row r (0 X, 1 Y) is empty, and of FORMAT k: how many it had");
        Asked a = new Asked(CHECK);
        a.due(a.x.clear(0, HALF), 0, "clear", 0, HALF);
        a.rowOf(0, HALF, 32, ONE);
        a.row(1, SINGLE, 7);
        a.due(a.x.clear(0, NARROW), 32, "clear", 0, NARROW);
        a.at(0);
        a.at(1, 7);
        a.due(a.x.count(2), NARROW, "count", 2);
        a.due(a.x.count(3), SINGLE, "count", 3);
        a.due(a.x.push(0, 256), BAD, "push", 0, 256);
        a.due(a.x.push(0, 255), 1, "push", 0, 255);
        a.at(0, 255);
        a.due(a.x.clear(1, SINGLE), 1, "clear", 1, SINGLE);
        a.at(1);
        a.at(0, 255);
    }

    private static void pushing() {
        CHECK.sentence("Promise 12: A PATTERN more in row r: how many there are. BAD; FULL");
        Asked a = new Asked(CHECK);
        for (int i = 1; i <= 32; i++) {
            a.due(a.x.push(0, 65536 - i), i, "push", 0, 65536 - i);
        }
        a.due(a.x.push(0, 65535), FULL, "push", 0, 65535);
        a.due(a.x.push(0, 65536), BAD, "push", 0, 65536);
        a.due(a.x.push(1, -1), 1, "push", 1, -1);
        a.due(a.x.push(2, 0), BAD, "push", 2, 0);
        a.due(a.x.push(-1, 0), BAD, "push", -1, 0);
        a.due(a.x.at(0, 0), 65535, "at", 0, 0);
        a.due(a.x.at(0, 31), 65504, "at", 0, 31);
    }

    private static void placesOfAt() {
        CHECK.sentence("Promise 13: PATTERN i of row r. BAD: as -2: also there is none such");
        Asked a = new Asked(CHECK);
        a.row(0, HALF, 3, 4);
        a.due(a.x.at(0, 0), 3, "at", 0, 0);
        a.due(a.x.at(0, 1), 4, "at", 0, 1);
        a.due(a.x.at(0, 2), -2, "at", 0, 2);
        a.due(a.x.at(0, -1), -2, "at", 0, -1);
        a.due(a.x.at(1, 0), -2, "at", 1, 0);
        a.due(a.x.at(2, 0), -2, "at", 2, 0);
        a.due(a.x.at(0, 32), -2, "at", 0, 32);
        a.row(0, HALF, 5);
        a.due(a.x.at(0, 1), -2, "at of what was there before", 0, 1);
    }

    private static void counts() {
        CHECK.sentence("Promise 14: 0 how many in X, 1 in Y, 2 the FORMAT of X, 3 of Y, 4 S, 5 STREAK, 6 G. BAD: as 1000000");
        Asked a = new Asked(CHECK);
        a.rowOf(0, NARROW, 32, 1);
        a.row(1, BRAIN, 1, 1, 1);
        a.x.scaler(-2, 100);
        a.x.step(0);
        int[] dues = {32, 3, NARROW, BRAIN, -2, 1, 100};
        for (int what = 0; what < dues.length; what++) {
            a.due(a.x.count(what), dues[what], "count", what);
        }
        a.due(a.x.count(-1), APART, "count", -1);
        a.due(a.x.count(7), APART, "count", 7);
    }

    private static void sumOfEachRow() {
        CHECK.sentence("Promise 15: Row r into FORMAT n: how = 0 FROM THE LEFT, 1 TREE, 2 all as one SUM");
        Asked a = new Asked(CHECK);
        a.row(0, HALF, 0x6800, ONE, ONE, ONE);
        a.row(1, SINGLE, Asked.single(2048), Asked.single(2), Asked.single(1));
        // 2048 and three ones: each is lost; the first is, and a pair is not; 2051 is a tie, whose even one is 2052
        a.sum(0, 0, HALF, 0, 0x6800, 8);
        a.sum(0, 1, HALF, 0, 0x6801, 8);
        a.sum(0, 2, HALF, 0, 0x6802, 8);
        a.sum(1, 0, HALF, 2, 0x6801, 8);
        a.sum(1, 2, SINGLE, 0, Asked.single(2051), 0);
        a.due(a.x.sum(0, 3, HALF, 0), BAD, "sum", 0, 3, HALF, 0);
        a.due(a.x.sum(0, -1, HALF, 0), BAD, "sum", 0, -1, HALF, 0);
        a.due(a.x.sum(2, 0, HALF, 0), BAD, "sum", 2, 0, HALF, 0);
        a.at(0, 0x6800, ONE, ONE, ONE);
    }

    private static void dotPieces() {
        CHECK.sentence("Promise 16: X by Y in PIECES of c (1 .. 32) .. c = 0: all as one SUM into n");
        Asked a = new Asked(CHECK);
        a.row(0, HALF, 0x6800, ONE, ONE, ONE, ONE);
        a.rowOf(1, HALF, 5, ONE);
        a.dot(0, HALF, HALF, 0, 0x6802, 0);
        a.dot(1, HALF, HALF, 0, 0x6800, 8);
        a.dot(32, HALF, HALF, 0, 0x6800, 8);
        a.due(a.x.dot(33, HALF, HALF, 0), BAD, "dot", 33, HALF, HALF, 0);
        a.due(a.x.dot(-1, HALF, HALF, 0), BAD, "dot", -1, HALF, HALF, 0);
        a.due(a.x.dot(0, 4, HALF, 0), BAD, "dot", 0, 4, HALF, 0);
        a.due(a.x.dot(0, -1, HALF, 0), BAD, "dot", 0, -1, HALF, 0);
        // as one SUM the accumulator counts for nothing
        a.dot(0, NARROW, SINGLE, 0, Asked.single(2052), 0);
    }

    private static void scaleApart() {
        CHECK.sentence("Promise 17: SCALE of X as a BLOCK of FORMAT e. BAD: as 1000000");
        Asked a = new Asked(CHECK);
        a.row(0, HALF, 0x5400);
        a.row(1, HALF, ONE, INF);
        a.due(a.x.scale(NARROW), -2, "scale", NARROW);
        a.due(a.x.scale(4), APART, "scale", 4);
        a.due(a.x.scale(-1), APART, "scale", -1);
        a.flags(0);
    }

    private static void elementPlaces() {
        CHECK.sentence("Promise 18: ELEMENT i of X. BAD: also there is none such. (FLAGS, too.)");
        Asked a = new Asked(CHECK);
        a.due(a.x.element(NARROW, 0), BAD, "element of an empty X", NARROW, 0);
        a.row(1, HALF, ONE);
        a.due(a.x.element(NARROW, 0), BAD, "element of an empty X", NARROW, 0);
        a.row(0, HALF, ONE, 0x3C40, 0x3FFF, 1);
        a.element(NARROW, 0, 120, 0);
        a.element(NARROW, 1, 120, 8);
        a.element(NARROW, 2, 126, 10);
        a.element(NARROW, 3, 0, 12);
        a.due(a.x.element(NARROW, 4), BAD, "element", NARROW, 4);
        a.due(a.x.element(NARROW, -1), BAD, "element", NARROW, -1);
        a.due(a.x.element(4, 0), BAD, "element", 4, 0);
        a.flags(0);
        a.rowOf(0, HALF, 32, ONE);
        a.element(NARROW, 31, 120, 0);
        a.due(a.x.element(NARROW, 32), BAD, "element", NARROW, 32);
    }

    private static void scalerBounds() {
        CHECK.sentence("Promise 19: S, -60 .. 60, and G, 1 .. 100; STREAK 0: 1. BAD");
        Asked a = new Asked(CHECK);
        int[][] taken = {{-60, 1}, {60, 100}, {0, 100}, {60, 1}};
        for (int[] t : taken) {
            a.x.scaler(0, 3);
            a.x.step(0);
            a.due(a.x.scaler(t[0], t[1]), 1, "scaler", t[0], t[1]);
            a.scaler(t[0], 0, t[1]);
        }
        a.x.scaler(7, 8);
        a.x.step(0);
        int[][] refused = {{-61, 3}, {61, 3}, {0, 0}, {0, 101}, {0, -1}, {61, 101}};
        for (int[] r : refused) {
            a.due(a.x.scaler(r[0], r[1]), BAD, "scaler", r[0], r[1]);
            a.scaler(7, 1, 8);
        }
        // the same S and G again: STREAK is 0 all the same
        a.due(a.x.scaler(7, 8), 1, "scaler", 7, 8);
        a.scaler(7, 0, 8);
        // a G that STREAK had passed
        a.x.step(0);
        a.x.step(0);
        a.x.scaler(7, 1);
        a.scaler(7, 0, 1);
        a.x.step(0);
        a.scaler(8, 0, 1);
    }

    private static void stepAnswers() {
        CHECK.sentence("Promise 20: A STEP: 1, or 0: S fell. BAD: r is no PATTERN of Y's FORMAT");
        Asked a = new Asked(CHECK);
        a.row(0, HALF, ONE);
        a.row(1, NARROW, 64);
        a.due(a.x.step(256), BAD, "step", 256);
        a.due(a.x.step(-1), BAD, "step", -1);
        a.due(a.x.step(ONE), BAD, "step", ONE);
        a.at(1, 64);
        a.scaler(0, 0, 3);
        a.due(a.x.step(56), 1, "step", 56);
        a.at(1, 56);
        a.row(0, HALF, INF);
        a.due(a.x.step(256), BAD, "step", 256);
        a.scaler(0, 1, 3);
        a.due(a.x.step(255), 0, "step", 255);
        a.scaler(-1, 0, 3);
        a.at(1, 56);
        a.row(0, HALF, ONE);
        a.due(a.x.step(255), 1, "step", 255);
        a.at(1, 127);
        a.row(1, SINGLE);
        a.due(a.x.step(-1), 1, "step", -1);
    }

    private static void kept() {
        keptWidths();
        keptNan();
        keptWays();
        keptWithoutFlags();
    }

    private static void keptWidths() {
        CHECK.sentence("Promise 21: PATTERNS of FORMAT k (E + F at most 11)");
        int[][] dues = {
            {2, 1, 0, 14}, {2, 9, 1, 4094}, {8, 3, 0, 4096 - 14}, {8, 3, 2, 4094}, {8, 4, 0, BAD}, {2, 10, 0, BAD},
            {8, 23, 0, BAD}, {2, 23, 1, BAD}
        };
        for (int[] d : dues) {
            Asked a = Asked.narrow(CHECK, d[0], d[1], d[2]);
            a.x.format(BRAIN, d[0], d[1], d[2]);
            a.due(a.x.kept(NARROW, BRAIN, 0), d[3], "kept of", d[0], d[1], d[2]);
        }
        Asked a = new Asked(CHECK);
        a.due(a.x.kept(HALF, NARROW, 0), BAD, "kept", HALF, NARROW, 0);
        a.due(a.x.kept(NARROW, SINGLE, 0), 254, "kept", NARROW, SINGLE, 0);
    }

    private static void keptNan() {
        CHECK.sentence("Promise 21: NAN not counted, are the same when they are ROUNDED into FORMAT m, and that into k");
        Asked a = new Asked(CHECK);
        // itself: all but NAN, the zeros of both signs and what is infinite among them
        a.due(a.x.kept(NARROW, NARROW, 0), 254, "kept", NARROW, NARROW, 0);
        a.x.format(NARROW, 4, 3, 0);
        a.due(a.x.kept(NARROW, NARROW, 0), 256 - 14, "kept", NARROW, NARROW, 0);
        // E 2 F 2 by E 2 F 1, both of KIND 0: 0, 0.5, 1, 1.5, 2, 3 and what is infinite come back
        a.x.format(NARROW, 2, 2, 0);
        a.x.format(BRAIN, 2, 1, 0);
        a.due(a.x.kept(NARROW, BRAIN, 2), 14, "kept", NARROW, BRAIN, 2);
        // by KIND 1 what is infinite is 4, and that is infinite again, but not toward 0
        a.x.format(BRAIN, 2, 1, 1);
        a.due(a.x.kept(NARROW, BRAIN, 0), 14, "kept", NARROW, BRAIN, 0);
        a.due(a.x.kept(NARROW, BRAIN, 2), 12, "kept", NARROW, BRAIN, 2);
        // by KIND 2 it is NAN
        a.x.format(BRAIN, 2, 1, 2);
        a.due(a.x.kept(NARROW, BRAIN, 0), 12, "kept", NARROW, BRAIN, 0);
    }

    private static void keptWays() {
        CHECK.sentence("Promise 21: in a WAY 0 .. 4");
        Asked a = new Asked(CHECK);
        a.due(a.x.kept(NARROW, HALF, -1), BAD, "kept", NARROW, HALF, -1);
        a.due(a.x.kept(NARROW, HALF, 5), BAD, "kept", NARROW, HALF, 5);
        for (int way = 0; way < 5; way++) {
            a.due(a.x.kept(NARROW, HALF, way), 254, "kept", NARROW, HALF, way);
        }
        // E 2 F 1 of KIND 0 by KIND 1: what is infinite comes back in WAY 3 above 0 alone, in WAY 4 below 0
        a.x.format(NARROW, 2, 1, 0);
        a.x.format(BRAIN, 2, 1, 1);
        int[] dues = {14, 14, 12, 13, 13};
        for (int way = 0; way < 5; way++) {
            a.due(a.x.kept(NARROW, BRAIN, way), dues[way], "kept", NARROW, BRAIN, way);
        }
    }

    private static void keptWithoutFlags() {
        CHECK.sentence("Promise 21: (all without FLAGS)");
        Asked a = new Asked(CHECK);
        a.x.format(BRAIN, 2, 1, 0);
        for (int way = 0; way < 5; way++) {
            a.x.kept(NARROW, BRAIN, way);
            a.flags(0);
        }
        a.x.reckon(1, HALF, INF, HALF, INF, HALF, 0);
        a.x.kept(NARROW, BRAIN, 0);
        a.flags(1);
        a.state(1);
    }
}
