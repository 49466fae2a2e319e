import java.util.Arrays;

/** The edges that the document's sentences on ROWS, PIECES, BLOCK and STEP name, sentence by sentence. */
public final class EdgesOfRowsTest {
    private static final Check CHECK = new Check("EdgesOfRowsTest");
    private static final int HALF = Asked.HALF, BRAIN = Asked.BRAIN, SINGLE = Asked.SINGLE, NARROW = Asked.NARROW;
    private static final int ONE = 0x3C00, MINUS_ONE = 0xBC00, TWO = 0x4000, NAN = 0x7E00;
    private static final int INF = 0x7C00, MINUS_INF = 0xFC00, MINUS_ZERO = 0x8000;
    /** 2048: from it on the values of FORMAT 0 are 2 apart, so that 1 more is a tie, and is lost in WAY 0. */
    private static final int GREAT = 0x6800;
    private static final int WAYS = 6;

    public static void main(String[] args) {
        rows();
        fromTheLeft();
        tree();
        pieces();
        block();
        step();
        CHECK.finish();
    }

    private static void rows() {
        CHECK.sentence("ROWS X and Y have a FORMAT each and up to 32 PATTERNS");
        Asked a = new Asked(CHECK);
        for (int r = 0; r < 2; r++) {
            a.rowOf(r, r + 1, 31, 5 + r);
            a.due(a.x.push(r, 9), 32, "push", r, 9);
            a.due(a.x.push(r, 9), HalfFloats.FULL, "push", r, 9);
            a.due(a.x.at(r, 31), 9, "at", r, 31);
            a.due(a.x.at(r, 32), HalfFloats.BAD, "at", r, 32);
            a.due(a.x.count(r), 32, "count", r);
            a.due(a.x.count(2 + r), r + 1, "count", 2 + r);
        }
        a.due(a.x.at(0, 30), 5, "at", 0, 30);
    }

    private static void fromTheLeft() {
        firstIsRounded();
        othersAreNot();
        leftWithoutAny();
    }

    private static void firstIsRounded() {
        CHECK.sentence("FROM THE LEFT: the first one ROUNDED into a FORMAT");
        Asked a = new Asked(CHECK);
        a.row(0, HALF, ONE + 1);
        a.sum(0, 0, NARROW, 0, 56, 8);
        a.sum(0, 0, NARROW, 3, 57, 8);
        a.row(0, HALF, MINUS_ZERO);
        a.sum(0, 0, NARROW, 0, 128, 0);
        a.row(0, HALF, MINUS_INF);
        a.sum(0, 0, NARROW, 0, 254, 0);
        // 1 + 2^-6 is 1 in FORMAT 3, so that less 1 nothing is left
        a.row(0, HALF, 0x3C10, MINUS_ONE);
        a.sum(0, 0, NARROW, 0, 0, 8);
        a.sum(0, 0, NARROW, 4, 128, 8);
        a.sum(0, 2, NARROW, 0, 8, 0);
    }

    private static void othersAreNot() {
        CHECK.sentence("each other one with what is so far, SUM");
        Asked a = new Asked(CHECK);
        // 1 + 2^-6 is no value of FORMAT 3, but less 1 it is one
        a.row(0, HALF, MINUS_ONE, 0x3C10);
        a.sum(0, 0, NARROW, 0, 8, 0);
        // 8 and 1.5: a tie, 10; then 11.5, a tie, 12; then 13.5, a tie, 14; at once 12.5 is 12
        a.row(0, HALF, 0x4800, 0x3E00, 0x3E00, 0x3E00);
        a.sum(0, 0, NARROW, 0, 86, 8);
        a.sum(0, 2, NARROW, 0, 84, 8);
        int[] patterns = new int[32];
        Arrays.fill(patterns, ONE);
        patterns[0] = GREAT;
        a.row(0, HALF, patterns);
        a.sum(0, 0, HALF, 0, GREAT, 8);
        a.sum(0, 0, HALF, 3, GREAT + 31, 8);
        patterns[0] = ONE;
        patterns[31] = GREAT;
        a.row(0, HALF, patterns);
        a.sum(0, 0, HALF, 2, GREAT + 15, 8);
        // infinite ones of both signs, the last one NAN: INVALID comes on the way
        a.row(0, HALF, INF, MINUS_INF, NAN);
        a.sum(0, 0, HALF, 0, NAN, 1);
    }

    private static void leftWithoutAny() {
        CHECK.sentence("FROM THE LEFT .. (Without any: +0.)");
        Asked a = new Asked(CHECK);
        for (int way = 0; way < WAYS; way++) {
            a.sum(0, 0, HALF, way, 0, 0);
            a.sum(1, 0, NARROW, way, 0, 0);
        }
        a.row(0, HALF, ONE);
        a.x.clear(0, HALF);
        a.sum(0, 0, HALF, 4, 0, 0);
    }

    private static void tree() {
        treeRoundsAll();
        treePairs();
        treeLeftOver();
        treeOfFullRows();
        treeWithoutAny();
    }

    private static void treeRoundsAll() {
        CHECK.sentence("TREE: all ROUNDED into the FORMAT");
        Asked a = new Asked(CHECK);
        // 1 + 2^-6 is 1 in FORMAT 3, the first one or not
        a.row(0, HALF, MINUS_ONE, 0x3C10);
        a.sum(0, 1, NARROW, 0, 0, 8);
        a.row(0, HALF, 0x3C10, MINUS_ONE);
        a.sum(0, 1, NARROW, 0, 0, 8);
        a.row(0, HALF, MINUS_ONE, 0, 0x3C10);
        a.sum(0, 1, NARROW, 0, 0, 8);
        a.row(0, HALF, ONE + 1);
        a.sum(0, 1, NARROW, 3, 57, 8);
        // both infinite ones are 448 and -448 then
        a.row(0, HALF, INF, MINUS_INF);
        a.sum(0, 1, NARROW, 0, 0, 0);
        a.sum(0, 1, NARROW, 4, 128, 0);
    }

    private static void treePairs() {
        CHECK.sentence("again and again the first and second, the third and fourth, .. become their SUMS");
        Asked a = new Asked(CHECK);
        a.row(0, HALF, GREAT, ONE, ONE, ONE);
        a.sum(0, 1, HALF, 0, GREAT + 1, 8);
        a.row(0, HALF, ONE, ONE, GREAT, ONE);
        a.sum(0, 1, HALF, 0, GREAT + 1, 8);
        a.row(0, HALF, ONE, ONE, ONE, ONE, GREAT, ONE, ONE, ONE);
        a.sum(0, 1, HALF, 0, GREAT + 3, 8);
        a.row(0, HALF, ONE, ONE, ONE, ONE, GREAT, ONE);
        a.sum(0, 1, HALF, 0, GREAT + 2, 8);
    }

    private static void treeLeftOver() {
        CHECK.sentence("(one that is left over stays) until there is one");
        Asked a = new Asked(CHECK);
        a.row(0, HALF, MINUS_ZERO, MINUS_ZERO, MINUS_ZERO);
        for (int way = 0; way < WAYS; way++) {
            a.sum(0, 1, HALF, way, MINUS_ZERO, 0);
        }
        // the last 1 meets 2048 and not the 1 before it
        a.row(0, HALF, GREAT, 0, ONE, 0, ONE);
        a.sum(0, 1, HALF, 0, GREAT, 8);
        a.row(0, HALF, GREAT, 0, ONE, 0, ONE, 0);
        a.sum(0, 1, HALF, 0, GREAT, 8);
        // here the last two meet
        a.row(0, HALF, GREAT, 0, 0, 0, ONE, 0, ONE);
        a.sum(0, 1, HALF, 0, GREAT + 1, 0);
        a.row(0, HALF, GREAT, 0, 0, 0, 0, 0, 0, 0, ONE);
        a.sum(0, 1, HALF, 3, GREAT + 1, 8);
        a.row(0, HALF, TWO, ONE);
        a.sum(0, 1, HALF, 0, 0x4200, 0);
        // it meets nothing that an earlier tree left behind
        a.row(0, HALF, 0, 0, 0, 1);
        a.sum(0, 1, HALF, 0, 1, 0);
        a.row(0, HALF, 0, 0, ONE);
        a.sum(0, 1, HALF, 0, ONE, 0);
    }

    private static void treeOfFullRows() {
        CHECK.sentence("TREE .. until there is one, of 31 and of 32");
        Asked a = new Asked(CHECK);
        int[] patterns = new int[31];
        Arrays.fill(patterns, ONE);
        patterns[0] = GREAT;
        a.row(0, HALF, patterns);
        // 2048, 2 .. 2, 1; 2050, 4 .. 4, 3; 2054, 8, 8, 7; 2062, 15: a tie, whose even one is 2076
        a.sum(0, 1, HALF, 0, GREAT + 14, 8);
        a.due(a.x.push(0, ONE), 32, "push", 0, ONE);
        a.sum(0, 1, HALF, 0, GREAT + 15, 8);
        a.sum(0, 2, HALF, 0, GREAT + 16, 8);
    }

    private static void treeWithoutAny() {
        CHECK.sentence("TREE .. (Without any: +0.)");
        Asked a = new Asked(CHECK);
        // what an earlier tree held is gone
        a.row(1, SINGLE, Asked.single(3), Asked.single(4));
        a.sum(1, 1, SINGLE, 0, Asked.single(7), 0);
        for (int way = 0; way < WAYS; way++) {
            a.sum(0, 1, HALF, way, 0, 0);
        }
    }

    private static void pieces() {
        asLongAsTheShorter();
        piecesOfEachLength();
        piecesBeginWithZero();
        piecesInTheAccumulator();
        piecesInTheAnswer();
        piecesWithoutAny();
    }

    private static void asLongAsTheShorter() {
        CHECK.sentence("PIECES of X and Y (both as long as the shorter one)");
        int[] lengths = {0, 1, 2, 3, 31, 32};
        for (int first : lengths) {
            for (int second : lengths) {
                Asked a = new Asked(CHECK);
                a.rowOf(0, HALF, first, ONE);
                a.rowOf(1, SINGLE, second, Asked.single(2));
                int due = Asked.single(2.0 * Math.min(first, second));
                a.dot(0, HALF, SINGLE, 0, due, 0);
                a.dot(1, SINGLE, SINGLE, 0, due, 0);
                a.dot(32, SINGLE, SINGLE, 0, due, 0);
            }
        }
        Asked a = new Asked(CHECK);
        a.row(0, HALF, ONE, NAN);
        a.row(1, HALF, TWO);
        a.dot(2, HALF, HALF, 0, TWO, 0);
        a.dot(0, HALF, HALF, 0, TWO, 0);
        a.row(0, HALF, ONE);
        a.row(1, HALF, TWO, INF);
        a.dot(2, HALF, HALF, 0, TWO, 0);
        a.dot(0, HALF, HALF, 0, TWO, 0);
    }

    /** 2048 and five ones: a piece of c products is rounded at each of them, and so is the answer at each piece. */
    private static void piecesOfEachLength() {
        CHECK.sentence("of c: in each piece .. then that and the next product, and so on");
        Asked a = new Asked(CHECK);
        a.row(0, HALF, GREAT, ONE, ONE, ONE, ONE, ONE);
        a.rowOf(1, HALF, 6, ONE);
        // of 3: 2048 and 3, a tie; of 4: 2048 and 2; of 5: 2048 and the last 1; of 6 and more: all in one
        int[] due = {GREAT, GREAT + 2, GREAT + 2, GREAT + 1, GREAT, GREAT, GREAT};
        for (int c = 1; c <= due.length; c++) {
            a.dot(c, HALF, HALF, 0, due[c - 1], 8);
        }
        a.dot(32, HALF, HALF, 0, GREAT, 8);
        a.dot(6, HALF, SINGLE, 0, Asked.single(2048), 8);
        a.dot(5, HALF, SINGLE, 0, Asked.single(2049), 8);
        a.dot(1, HALF, SINGLE, 0, Asked.single(2053), 0);
        int[] full = new int[32];
        Arrays.fill(full, ONE);
        full[31] = GREAT;
        a.row(0, HALF, full);
        a.rowOf(1, HALF, 32, ONE);
        a.dot(32, HALF, HALF, 2, GREAT + 15, 8);
        a.dot(31, HALF, HALF, 2, GREAT + 15, 8);
        a.dot(31, HALF, HALF, 3, GREAT + 16, 8);
    }

    private static void piecesBeginWithZero() {
        CHECK.sentence("in each piece +0 and the first product, SUM");
        for (int way = 0; way < WAYS; way++) {
            Asked a = new Asked(CHECK);
            a.row(0, HALF, MINUS_ZERO, MINUS_ZERO);
            a.row(1, HALF, ONE, ONE);
            int due = way == 4 ? MINUS_ZERO : 0;
            a.dot(1, HALF, HALF, way, due, 0);
            a.dot(2, HALF, HALF, way, due, 0);
            a.dot(0, HALF, HALF, way, MINUS_ZERO, 0);
            a.row(0, HALF, 0);
            a.dot(1, HALF, HALF, way, 0, 0);
        }
    }

    private static void piecesInTheAccumulator() {
        CHECK.sentence("SUM, in the FORMAT of the accumulator");
        Asked a = new Asked(CHECK);
        a.row(0, SINGLE, Asked.single(300), Asked.single(300), Asked.single(-300));
        a.rowOf(1, SINGLE, 3, Asked.single(1));
        // 300 is 288 in FORMAT 3, and 288 with 300 more is too much: 448
        a.dot(1, NARROW, SINGLE, 0, Asked.single(288), 8);
        a.dot(2, NARROW, SINGLE, 0, Asked.single(448 - 288), 10);
        a.dot(3, NARROW, SINGLE, 0, Asked.single(144), 10);
        a.dot(0, NARROW, SINGLE, 0, Asked.single(300), 0);
        a.row(0, SINGLE, 0x7F7FFFFF, 0x7F7FFFFF);
        a.row(1, SINGLE, Asked.single(2), Asked.single(-2));
        a.dot(2, SINGLE, SINGLE, 0, 0x7F800000, 10);
        a.dot(1, SINGLE, SINGLE, 0, 0x7FC00000, 11);
        a.dot(1, SINGLE, SINGLE, 2, 0, 10);
    }

    private static void piecesInTheAnswer() {
        CHECK.sentence("+0 and the first piece's, SUM, in the FORMAT of the answer, and so on");
        Asked a = new Asked(CHECK);
        a.row(0, SINGLE, Asked.single(300), Asked.single(300), Asked.single(-300));
        a.rowOf(1, SINGLE, 3, Asked.single(1));
        a.dot(3, SINGLE, NARROW, 0, 121, 8);
        a.dot(1, SINGLE, NARROW, 0, 113, 10);
        a.dot(2, SINGLE, NARROW, 0, 113, 10);
        // an infinite piece is 448 at most in the answer, where the next one meets it
        a.row(0, HALF, INF, MINUS_ONE);
        a.row(1, HALF, ONE, ONE);
        a.dot(1, HALF, NARROW, 3, 126, 8);
        a.dot(2, HALF, NARROW, 3, 126, 0);
        // after the last piece nothing comes that would take the sign of what is ROUNDED to 0
        a.row(0, HALF, 1);
        a.row(1, HALF, MINUS_ONE);
        a.dot(1, HALF, NARROW, 0, 128, 12);
        a.dot(2, HALF, NARROW, 0, 128, 12);
    }

    private static void piecesWithoutAny() {
        CHECK.sentence("PIECES of rows of which one is empty");
        Asked a = new Asked(CHECK);
        for (int way = 0; way < WAYS; way++) {
            a.dot(1, HALF, HALF, way, 0, 0);
            a.dot(32, NARROW, SINGLE, way, 0, 0);
        }
        a.row(0, HALF, NAN, INF);
        a.dot(1, HALF, HALF, 4, 0, 0);
        a.dot(0, HALF, HALF, 4, 0, 0);
    }

    private static void block() {
        scaleAtPowers();
        scaleLessTheSame();
        scaleOfNone();
        elements();
        elementsBeyond();
    }

    private static int scaleOf(int k, int e, int... patterns) {
        Asked a = new Asked(CHECK);
        a.row(0, k, patterns);
        return a.x.scale(e);
    }

    private static void scaleAtPowers() {
        CHECK.sentence("SCALE is the greatest whole k such that 2 to the k is not above some |x| ..");
        CHECK.due("just 1", scaleOf(HALF, NARROW, ONE), -8);
        CHECK.due("just below 1", scaleOf(HALF, NARROW, ONE - 1), -9);
        CHECK.due("just above 1", scaleOf(HALF, NARROW, ONE + 1), -8);
        CHECK.due("just below 2", scaleOf(HALF, NARROW, TWO - 1), -8);
        CHECK.due("just 2, below 0", scaleOf(HALF, NARROW, TWO | MINUS_ZERO), -7);
        CHECK.due("the greatest alone counts", scaleOf(HALF, NARROW, 1, TWO, ONE, 0), -7);
        CHECK.due("the last one counts", scaleOf(HALF, NARROW, 1, ONE, TWO), -7);
        CHECK.due("the greatest half", scaleOf(HALF, NARROW, 0x7BFF), 15 - 8);
        CHECK.due("the least EXP of 1", scaleOf(HALF, NARROW, 1024), -14 - 8);
        CHECK.due("the greatest EXP of 0", scaleOf(HALF, NARROW, 1023), -15 - 8);
        CHECK.due("half of that", scaleOf(HALF, NARROW, 512), -15 - 8);
        CHECK.due("one less", scaleOf(HALF, NARROW, 511), -16 - 8);
        CHECK.due("the least half", scaleOf(HALF, NARROW, MINUS_ZERO + 1), -24 - 8);
        CHECK.due("the least single", scaleOf(SINGLE, NARROW, 1), -149 - 8);
        CHECK.due("the greatest single", scaleOf(SINGLE, NARROW, 0x7F7FFFFF), 127 - 8);
        CHECK.due("NAN and infinite ones aside", scaleOf(HALF, NARROW, NAN, INF, ONE, MINUS_INF, 0xFFFF), -8);
        Asked full = new Asked(CHECK);
        full.rowOf(0, HALF, 31, ONE);
        full.x.push(0, TWO);
        full.due(full.x.scale(NARROW), -7, "scale", NARROW);
    }

    private static void scaleLessTheSame() {
        CHECK.sentence("less the same of the greatest value of FORMAT e");
        int[][] forms = {{2, 1, 0, 1}, {2, 1, 1, 2}, {2, 1, 2, 2}, {4, 3, 0, 7}, {8, 1, 1, 128}, {8, 23, 0, 127}};
        for (int[] f : forms) {
            Asked a = Asked.narrow(CHECK, f[0], f[1], f[2]);
            a.row(0, HALF, ONE);
            a.due(a.x.scale(NARROW), -f[3], "scale into", f[0], f[1], f[2]);
        }
        CHECK.due("least single into E 8 KIND 0", scaleOf(SINGLE, BRAIN, 1), -149 - 127);
    }

    private static void scaleOfNone() {
        CHECK.sentence("(0, if there is none such)");
        for (int e = 0; e < 4; e++) {
            CHECK.due("scale of an empty X", scaleOf(HALF, e), 0);
            CHECK.due("scale of zeros", scaleOf(HALF, e, 0, MINUS_ZERO), 0);
            CHECK.due("scale of infinite ones", scaleOf(HALF, e, INF, MINUS_INF), 0);
            CHECK.due("scale of NAN", scaleOf(HALF, e, NAN, 0xFFFF), 0);
        }
        Asked a = new Asked(CHECK);
        a.row(0, HALF, 0, MINUS_ZERO, INF, MINUS_INF, NAN);
        a.element(BRAIN, 0, 0, 0);
        a.element(BRAIN, 1, 0x8000, 0);
        a.element(BRAIN, 2, 0x7F80, 0);
        a.element(BRAIN, 3, 0xFF80, 0);
        a.element(BRAIN, 4, 0x7FC0, 0);
    }

    private static void elements() {
        CHECK.sentence("ELEMENTS are each x times 2 to the power - SCALE, ROUNDED into FORMAT e in WAY 0");
        Asked a = new Asked(CHECK);
        // SCALE -8: 1 is 256, whose neighbours in FORMAT 3 are 32 apart; 1.0625 and 1.1875 are ties
        a.row(0, HALF, ONE, 0x3C40, 0x3CC0, 0xBC40, 0x3800);
        a.due(a.x.scale(NARROW), -8, "scale", NARROW);
        a.element(NARROW, 0, 120, 0);
        a.element(NARROW, 1, 120, 8);
        a.element(NARROW, 2, 122, 8);
        a.element(NARROW, 3, 248, 8);
        a.element(NARROW, 4, 112, 0);
        a.at(0, ONE, 0x3C40, 0x3CC0, 0xBC40, 0x3800);
        // the least of all singles comes up by 2 to the power 276
        a.row(0, SINGLE, 1, 0x80000003);
        a.element(SINGLE, 0, 0x7E800000, 0);
        a.element(SINGLE, 1, 0xFF400000L, 0);
    }

    private static void elementsBeyond() {
        CHECK.sentence("ELEMENTS that are too large or too small");
        Asked a = new Asked(CHECK);
        // 1.8125 is a tie of 448 and 480 in FORMAT 3, 1.875 is 480
        a.row(0, HALF, 0x3F40, 0x3F41, 0x3F80, 0xBFFF, 1, MINUS_ZERO + 1);
        a.element(NARROW, 0, 126, 8);
        a.element(NARROW, 1, 126, 10);
        a.element(NARROW, 2, 126, 10);
        a.element(NARROW, 3, 254, 10);
        a.element(NARROW, 4, 0, 12);
        a.element(NARROW, 5, 128, 12);
        a.element(BRAIN, 3, 0xFF80, 10);
        Asked two = Asked.narrow(CHECK, 4, 3, 2);
        two.row(0, HALF, 0xBFFF);
        two.element(NARROW, 0, 127, 10);
    }

    private static void step() {
        slopesThatBroke();
        notBelow();
        eachWeight();
        changeIsRoundedFirst();
        slopeIsRounded();
        streak();
        notAbove();
        stepOfNone();
    }

    private static Asked weights(int[] slopes, int... weights) {
        Asked a = new Asked(CHECK);
        a.row(0, HALF, slopes);
        a.row(1, HALF, weights);
        return a;
    }

    private static void steps(Asked a, int r, int due) {
        a.due(a.x.step(r), due, "step", r);
    }

    private static void slopesThatBroke() {
        CHECK.sentence("If one of X is infinite or NAN: S becomes 1 less, STREAK 0");
        int[][] broken = {{INF, ONE}, {ONE, MINUS_INF}, {ONE, 0x7C01}, {0xFFFF, ONE}, {ONE, ONE, ONE, INF}};
        for (int[] slopes : broken) {
            Asked a = weights(new int[] {ONE}, ONE, ONE);
            steps(a, 0, 1);
            a.scaler(0, 1, 3);
            a.row(0, HALF, slopes);
            steps(a, ONE, 0);
            a.scaler(-1, 0, 3);
            a.at(1, ONE, ONE);
            a.flags(0);
        }
        Asked most = weights(new int[] {0x7BFF}, ONE);
        steps(most, 0, 1);
        most.scaler(0, 1, 3);
        Asked noWeights = weights(new int[] {NAN});
        steps(noWeights, 0, 0);
        noWeights.scaler(-1, 0, 3);
        // what a weight or the rate is counts for nothing
        Asked other = weights(new int[] {ONE}, INF, NAN);
        steps(other, INF, 1);
        other.scaler(0, 1, 3);
        Asked one = new Asked(CHECK);
        one.row(0, NARROW, 126, 254, 120);
        steps(one, 0, 1);
        one.row(0, NARROW, 126, 255);
        steps(one, 0, 0);
    }

    private static void notBelow() {
        CHECK.sentence("(but not below -60)");
        Asked a = weights(new int[] {INF}, ONE);
        a.x.scaler(-59, 5);
        steps(a, 0, 0);
        a.scaler(-60, 0, 5);
        steps(a, 0, 0);
        a.scaler(-60, 0, 5);
        a.x.clear(0, HALF);
        steps(a, 0, 1);
        a.x.push(0, NAN);
        steps(a, 0, 0);
        a.scaler(-60, 0, 5);
    }

    private static void eachWeight() {
        CHECK.sentence("Else each weight w (of the shorter length) becomes the SUM of w and - r times g");
        Asked a = weights(new int[] {ONE, TWO}, TWO, ONE, NAN);
        steps(a, ONE, 1);
        a.at(1, ONE, MINUS_ONE, NAN);
        Asked b = weights(new int[] {ONE, TWO, TWO}, TWO);
        steps(b, MINUS_ONE, 1);
        b.at(1, 0x4200);
        b.at(0, ONE, TWO, TWO);
        Asked zeros = weights(new int[] {ONE, ONE, MINUS_ONE}, MINUS_ZERO, 0, MINUS_ZERO);
        steps(zeros, 0, 1);
        zeros.at(1, MINUS_ZERO, 0, 0);
        Asked full = new Asked(CHECK);
        full.rowOf(0, HALF, 32, ONE);
        full.rowOf(1, HALF, 32, TWO);
        steps(full, ONE, 1);
        for (int i = 0; i < 32; i++) {
            full.due(full.x.at(1, i), ONE, "at", 1, i);
        }
        Asked invalid = weights(new int[] {0, ONE}, ONE, INF);
        steps(invalid, INF, 1);
        invalid.at(1, NAN, NAN);
        invalid.flags(1);
    }

    private static void changeIsRoundedFirst() {
        CHECK.sentence("- r times g, ROUNDED first itself into Y's FORMAT");
        // (1 + 2^-10) times itself is 1 + 2^-9 + 2^-20: the last part goes before the weight comes
        Asked a = weights(new int[] {ONE + 1}, ONE + 2);
        steps(a, ONE + 1, 1);
        a.at(1, 0);
        a.flags(8);
        // a change that overflows, and one that is too small
        Asked b = weights(new int[] {0x7BFF, 1}, 0x7BFF, MINUS_ZERO);
        steps(b, TWO, 1);
        b.at(1, MINUS_INF, 0x8002);
        b.flags(10);
        Asked c = weights(new int[] {1}, MINUS_ZERO);
        steps(c, 1, 1);
        c.at(1, MINUS_ZERO);
        c.flags(12);
    }

    private static void slopeIsRounded() {
        CHECK.sentence("g being x times 2 to the power - S, ROUNDED into Y's FORMAT (all WAY 0)");
        Asked a = new Asked(CHECK);
        a.row(0, HALF, 0x3C40, 0x3CC0);
        a.row(1, NARROW, 0, 0);
        steps(a, 56, 1);
        a.at(1, 128 + 56, 128 + 58);
        a.flags(8);
        a.x.scaler(1, 100);
        a.row(0, HALF, TWO);
        a.row(1, NARROW, 0);
        steps(a, 56, 1);
        a.at(1, 128 + 56);
        a.x.scaler(-1, 100);
        a.row(1, NARROW, 0);
        steps(a, 56, 1);
        a.at(1, 128 + 72);
        a.flags(0);
        a.x.scaler(-60, 100);
        a.row(1, NARROW, 0);
        steps(a, 48, 1);
        a.at(1, 128 + 118);
        a.flags(10);
        a.x.scaler(60, 100);
        a.row(1, NARROW, 1);
        steps(a, 126, 1);
        a.at(1, 1);
        a.flags(12);
        a.state(1);
    }

    private static void streak() {
        CHECK.sentence("STREAK is 1 more; if it is G, S becomes 1 more, STREAK 0");
        Asked a = new Asked(CHECK);
        for (int i = 1; i <= 7; i++) {
            steps(a, 0, 1);
            a.scaler(i / 3, i % 3, 3);
        }
        a.x.scaler(0, 1);
        for (int i = 1; i <= 3; i++) {
            steps(a, 0, 1);
            a.scaler(i, 0, 1);
        }
        a.x.scaler(-60, 100);
        for (int i = 1; i < 100; i++) {
            steps(a, 0, 1);
        }
        a.scaler(-60, 99, 100);
        steps(a, 0, 1);
        a.scaler(-59, 0, 100);
        Asked b = weights(new int[] {ONE}, ONE);
        steps(b, 0, 1);
        steps(b, 0, 1);
        b.row(0, HALF, INF);
        steps(b, 0, 0);
        b.row(0, HALF, ONE);
        steps(b, 0, 1);
        b.scaler(-1, 1, 3);
    }

    private static void notAbove() {
        CHECK.sentence("(but not above 60)");
        Asked a = new Asked(CHECK);
        a.x.scaler(59, 1);
        steps(a, 0, 1);
        a.scaler(60, 0, 1);
        steps(a, 0, 1);
        a.scaler(60, 0, 1);
        a.x.scaler(60, 2);
        steps(a, 0, 1);
        a.scaler(60, 1, 2);
        steps(a, 0, 1);
        a.scaler(60, 0, 2);
    }

    private static void stepOfNone() {
        CHECK.sentence("A STEP of rows of which one is empty");
        Asked none = new Asked(CHECK);
        steps(none, 0x7FC00000, 1);
        none.scaler(0, 1, 3);
        Asked noSlopes = weights(new int[0], ONE, INF);
        steps(noSlopes, ONE, 1);
        noSlopes.at(1, ONE, INF);
        noSlopes.scaler(0, 1, 3);
        Asked noWeights = weights(new int[] {ONE});
        steps(noWeights, ONE, 1);
        noWeights.at(1);
        noWeights.flags(0);
    }
}
