/** Promises 11 to 16: clear, push, at, count, sum, dot. */
public final class RowsTest {
    private static final int APART = 1000000;
    private static final Check CHECK = new Check("RowsTest");
    private static final int ONE = 0x3C00, TWO = 0x4000, NAN = 0x7E00, INF = 0x7C00, MINUS_INF = 0xFC00;
    private static final int MINUS_ZERO = 0x8000;

    public static void main(String[] args) {
        pushAndAt();
        fullRows();
        clearing();
        counting();
        rowRefusals();
        sumOfNone();
        sumOfOne();
        sumsInThreeOrders();
        treesOfEachLength();
        sumsOfZeros();
        sumsOfNoNumbers();
        sumsDrawn();
        exactSumsOfFullRows();
        sumRefuses();
        dotOfNone();
        dotInPieces();
        dotWithNarrowAccumulator();
        dotOfShorterRow();
        dotEdges();
        dotDrawn();
        dotRefuses();
        CHECK.finish();
    }

    private static HalfFloats rows(int formX, int[] xs, int formY, int[] ys) {
        HalfFloats x = new HalfFloats();
        x.clear(0, formX);
        x.clear(1, formY);
        for (int a : xs) {
            x.push(0, a);
        }
        for (int a : ys) {
            x.push(1, a);
        }
        CHECK.due("count(0)", x.count(0), xs.length);
        CHECK.due("count(1)", x.count(1), ys.length);
        return x;
    }

    private static void pushAndAt() {
        HalfFloats x = new HalfFloats();
        CHECK.due("push(0, 65535)", x.push(0, 65535), 1);
        CHECK.due("push(0, 0)", x.push(0, 0), 2);
        CHECK.due("push(1, -1)", x.push(1, -1), 1);
        CHECK.due("at(0, 0)", x.at(0, 0), 65535);
        CHECK.due("at(0, 1)", x.at(0, 1), 0);
        CHECK.due("at(1, 0)", x.at(1, 0), 4294967295L);
        CHECK.due("at(0, 2)", x.at(0, 2), HalfFloats.BAD);
        CHECK.due("at(0, -1)", x.at(0, -1), HalfFloats.BAD);
        CHECK.due("at(1, 1)", x.at(1, 1), HalfFloats.BAD);
        CHECK.due("at(0, 32)", x.at(0, 32), HalfFloats.BAD);
        CHECK.due("at(0, least)", x.at(0, Integer.MIN_VALUE), HalfFloats.BAD);
        CHECK.due("at(0, most)", x.at(0, Integer.MAX_VALUE), HalfFloats.BAD);
        CHECK.due("at(2, 0)", x.at(2, 0), HalfFloats.BAD);
        CHECK.due("at(-1, 0)", x.at(-1, 0), HalfFloats.BAD);
    }

    private static void fullRows() {
        HalfFloats x = new HalfFloats();
        for (int r = 0; r < 2; r++) {
            for (int i = 0; i < 32; i++) {
                CHECK.due("push of " + i, x.push(r, 100 + i), i + 1);
            }
            CHECK.due("push into a full row", x.push(r, 0), HalfFloats.FULL);
            CHECK.due("count of a full row", x.count(r), 32);
            CHECK.due("at(r, 31)", x.at(r, 31), 131);
            CHECK.due("at(r, 32)", x.at(r, 32), HalfFloats.BAD);
        }
        CHECK.due("BAD comes before FULL", x.push(0, 65536), HalfFloats.BAD);
        CHECK.due("clear of a full row", x.clear(0, 0), 32);
        CHECK.due("push again", x.push(0, 7), 1);
        CHECK.due("at(0, 0)", x.at(0, 0), 7);
        CHECK.due("at(0, 1)", x.at(0, 1), HalfFloats.BAD);
        CHECK.due("the other row", x.at(1, 0), 100);
    }

    private static void clearing() {
        HalfFloats x = new HalfFloats();
        x.push(0, 5);
        x.push(0, 6);
        x.push(1, 7);
        CHECK.due("clear(0, 3)", x.clear(0, 3), 2);
        CHECK.due("count(0)", x.count(0), 0);
        CHECK.due("count(2)", x.count(2), 3);
        CHECK.due("count(3)", x.count(3), 2);
        CHECK.due("push of FORMAT 0", x.push(0, 256), HalfFloats.BAD);
        CHECK.due("push of FORMAT 3", x.push(0, 255), 1);
        CHECK.due("clear(1, 0)", x.clear(1, 0), 1);
        CHECK.due("clear(1, 1)", x.clear(1, 1), 0);
        CHECK.due("count(3)", x.count(3), 1);
        int[][] wrong = {{-1, 0}, {2, 0}, {0, -1}, {0, 4}, {Integer.MAX_VALUE, 0}, {0, Integer.MIN_VALUE}};
        for (int[] w : wrong) {
            CHECK.due("clear(" + w[0] + ", " + w[1] + ")", x.clear(w[0], w[1]), HalfFloats.BAD);
        }
        CHECK.due("count(0)", x.count(0), 1);
        CHECK.due("count(2)", x.count(2), 3);
    }

    private static void counting() {
        HalfFloats x = rows(3, new int[] {1, 2, 3}, 1, new int[] {4});
        x.scaler(-7, 9);
        x.step(0);
        x.step(0);
        int[] due = {3, 1, 3, 1, -7, 2, 9};
        for (int what = 0; what < 7; what++) {
            CHECK.due("count(" + what + ")", x.count(what), due[what]);
        }
        CHECK.due("count(-1)", x.count(-1), APART);
        CHECK.due("count(7)", x.count(7), APART);
        CHECK.due("count(least)", x.count(Integer.MIN_VALUE), APART);
        x.scaler(-2, 1);
        CHECK.due("S that looks like BAD", x.count(4), -2);
    }

    private static void rowRefusals() {
        HalfFloats x = new HalfFloats();
        int[][] wrong = {{-1, 0}, {2, 0}, {0, 65536}, {0, -1}, {Integer.MIN_VALUE, 0}};
        for (int[] w : wrong) {
            CHECK.due("push(" + w[0] + ", " + w[1] + ")", x.push(w[0], w[1]), HalfFloats.BAD);
        }
        CHECK.due("count(0)", x.count(0), 0);
        CHECK.due("count(1)", x.count(1), 0);
    }

    private static void sums(HalfFloats x, int r, int how, int n, int way, long due, int flags) {
        String call = "sum(" + r + ", " + how + ", " + n + ", " + way + ")";
        CHECK.due(call, x.sum(r, how, n, way), due);
        CHECK.due("flags() after " + call, x.flags(), flags);
    }

    private static void sumOfNone() {
        HalfFloats x = new HalfFloats();
        for (int way = 0; way < 6; way++) {
            for (int how = 0; how < 3; how++) {
                sums(x, 0, how, 0, way, 0, 0);
                sums(x, 1, how, 3, way, 0, 0);
            }
        }
    }

    private static void sumOfOne() {
        HalfFloats x = rows(0, new int[] {MINUS_ZERO}, 0, new int[] {ONE + 1});
        for (int how = 0; how < 3; how++) {
            for (int way = 0; way < 5; way++) {
                sums(x, 0, how, 3, way, 128, 0);
                sums(x, 1, how, 3, way, way == 3 ? 57 : 56, 8);
            }
        }
    }

    /** The greatest single, 1, the greatest below 0, and the least: each order loses other terms. */
    private static void sumsInThreeOrders() {
        int most = 0x7F7FFFFF;
        HalfFloats x = rows(0, new int[0], 2, new int[] {most, 0x3F800000, most | 0x80000000, 1});
        sums(x, 1, 0, 2, 0, 1, 8);
        sums(x, 1, 1, 2, 0, 0, 8);
        sums(x, 1, 1, 2, 4, 0x80000000L, 8);
        sums(x, 1, 1, 2, 2, 0x73800000, 8);
        sums(x, 1, 2, 2, 0, 0x3F800000, 8);
        sums(x, 1, 2, 2, 3, 0x3F800001, 8);
        sums(x, 1, 2, 0, 4, ONE, 8);
        // 448 and 448 and -448 in FORMAT 3: the first two overflow, but not in one SUM
        HalfFloats y = rows(3, new int[] {126, 126, 254}, 3, new int[] {126, 254, 126});
        sums(y, 0, 0, 3, 0, 0, 10);
        sums(y, 0, 1, 3, 0, 0, 10);
        sums(y, 0, 2, 3, 0, 126, 0);
        sums(y, 1, 0, 3, 0, 126, 0);
        sums(y, 1, 2, 3, 4, 126, 0);
    }

    /** 2048 and ones: from the left each one is lost in a tie, in the tree they meet one another first. */
    private static void treesOfEachLength() {
        HalfFloats x = new HalfFloats();
        x.push(0, 0x6800);
        long[] tree = {2048, 2048, 2048, 2050, 2052, 2052, 2052, 2054, 2056};
        for (int many = 1; many <= 9; many++) {
            long due = 0x6800 + (tree[many - 1] - 2048) / 2;
            CHECK.due("sum from the left of " + many, x.sum(0, 0, 0, 0), 0x6800);
            CHECK.due("sum as a tree of " + many, x.sum(0, 1, 0, 0), due);
            CHECK.due("sum at once of " + many, x.sum(0, 2, 2, 0),
                Float.floatToIntBits(2047 + many));
            x.push(0, ONE);
        }
        HalfFloats y = new HalfFloats();
        for (int i = 0; i < 32; i++) {
            y.push(0, ONE);
            CHECK.due("a tree of ones", y.sum(0, 1, 1, 0), Float.floatToIntBits(i + 1) >>> 16);
        }
    }

    private static void sumsOfZeros() {
        int[] alike = {MINUS_ZERO, MINUS_ZERO, MINUS_ZERO};
        HalfFloats x = rows(0, alike, 0, new int[] {MINUS_ZERO, 0, MINUS_ZERO});
        HalfFloats y = rows(0, new int[] {ONE, 0xBC00, MINUS_ZERO}, 0, new int[] {MINUS_ZERO, ONE, 0xBC00});
        for (int how = 0; how < 3; how++) {
            for (int way = 0; way < 6; way++) {
                long mixed = way == 4 ? MINUS_ZERO : 0;
                sums(x, 0, how, 0, way, MINUS_ZERO, 0);
                sums(x, 1, how, 0, way, mixed, 0);
                sums(y, 0, how, 0, way, mixed, 0);
                sums(y, 1, how, 0, way, mixed, 0);
            }
        }
    }

    private static void sumsOfNoNumbers() {
        HalfFloats x = rows(0, new int[] {ONE, INF, ONE}, 0, new int[] {INF, ONE, MINUS_INF});
        HalfFloats y = rows(0, new int[] {INF, MINUS_INF, 0x7C01}, 0, new int[] {0xFFFF, INF, MINUS_INF});
        for (int how = 0; how < 3; how++) {
            sums(x, 0, how, 0, 0, INF, 0);
            sums(x, 0, how, 2, 0, 0x7F800000, 0);
            sums(x, 1, how, 0, 0, NAN, 1);
            sums(y, 0, how, 0, 0, NAN, how == 2 ? 0 : 1);
            sums(y, 1, how, 0, 0, NAN, 0);
        }
        sums(x, 0, 2, 3, 0, 126, 0);
        sums(x, 1, 2, 3, 0, 127, 1);
        // ROUNDED into FORMAT 3 the infinite ones are 448 and -448
        sums(x, 1, 1, 3, 0, 0, 8);
        // from the left the last one is infinite still
        sums(x, 1, 0, 3, 0, 254, 8);
        x.format(3, 4, 3, 2);
        sums(x, 0, 0, 3, 0, 127, 0);
        sums(x, 1, 1, 3, 0, 127, 0);
    }

    private static void sumsDrawn() {
        HalfFloats x = rows(0, new int[] {ONE + 1, ONE + 1, ONE + 1, ONE + 1}, 2, new int[0]);
        x.seed(1);
        x.sum(0, 2, 3, 5);
        CHECK.due("one is drawn at once", x.seed(1), 48271);
        sums(x, 0, 1, 3, 5, 72, 8);
        CHECK.due("four are drawn in the tree", x.seed(1), state(4));
        sums(x, 0, 0, 3, 5, 72, 8);
        CHECK.due("four are drawn from the left", x.seed(1), state(4));
    }

    private static long state(int draws) {
        long state = 1;
        for (int i = 0; i < draws; i++) {
            state = state * 48271 % 2147483647;
        }
        return state;
    }

    private static void exactSumsOfFullRows() {
        HalfFloats x = new HalfFloats();
        x.format(3, 8, 23, 1);
        x.clear(0, 3);
        x.clear(1, 3);
        for (int i = 0; i < 32; i++) {
            x.push(0, 0x7FFFFFFE);
            x.push(1, 0xFFFFFFFE);
        }
        sums(x, 0, 2, 3, 0, 0x7FFFFFFE, 10);
        sums(x, 1, 2, 2, 0, 0xFF800000L, 10);
        CHECK.due("the greatest products of all", x.dot(0, 0, 3, 2), 0xFFFFFFFEL);
        CHECK.due("flags()", x.flags(), 10);
        x.clear(1, 3);
        for (int i = 0; i < 31; i++) {
            x.push(1, i % 2 == 0 ? 0xFFFFFFFE : 0x7FFFFFFE);
        }
        x.clear(0, 3);
        for (int i = 0; i < 30; i++) {
            x.push(0, 0x7FFFFFFE);
        }
        x.push(0, 1);
        CHECK.due("all but one product cancel", x.dot(0, 0, 3, 0), 0x80000000L + (106L << 23) + 0x7FFFFE);
    }

    private static void sumRefuses() {
        HalfFloats x = rows(0, new int[] {ONE + 1, ONE}, 2, new int[] {1});
        int[][] wrong = {
            {-1, 0, 3, 0}, {2, 0, 3, 0}, {0, -1, 3, 0}, {0, 3, 3, 0}, {0, 0, -1, 0}, {0, 0, 4, 0},
            {0, 0, 3, -1}, {0, 0, 3, 6}, {0, Integer.MIN_VALUE, 3, 5}
        };
        for (int[] w : wrong) {
            CHECK.due("sum of " + java.util.Arrays.toString(w), x.sum(w[0], w[1], w[2], w[3]), HalfFloats.BAD);
        }
        CHECK.due("flags()", x.flags(), 0);
        CHECK.due("seed(1)", x.seed(1), 1);
    }

    private static void dots(HalfFloats x, int c, int m, int n, int way, long due, int flags) {
        String call = "dot(" + c + ", " + m + ", " + n + ", " + way + ")";
        CHECK.due(call, x.dot(c, m, n, way), due);
        CHECK.due("flags() after " + call, x.flags(), flags);
    }

    private static void dotOfNone() {
        HalfFloats x = rows(0, new int[] {ONE, TWO}, 2, new int[0]);
        for (int way = 0; way < 6; way++) {
            dots(x, 0, 0, 0, way, 0, 0);
            dots(x, 1, 0, 3, way, 0, 0);
            dots(x, 32, 0, 2, way, 0, 0);
        }
    }

    /** 2048 and ones in FORMAT 0: pieces of c ones add up before they meet what is great. */
    private static void dotInPieces() {
        int[] xs = {0x6800, ONE, ONE, ONE, ONE, ONE};
        int[] ys = {ONE, ONE, ONE, ONE, ONE, ONE};
        HalfFloats x = rows(0, xs, 0, ys);
        // c = 1: each one is lost; 2: 2048, 2, 2; 3: 2048, 3 (a tie to 2052); 4: 2048, 2; 5: 2048, 1; 6: 2048
        long[] due = {0x6802, 0x6800, 0x6802, 0x6802, 0x6801, 0x6800, 0x6800, 0x6800};
        for (int c = 0; c < due.length; c++) {
            dots(x, c, 0, 0, 0, due[c], 8);
        }
        dots(x, 32, 0, 0, 0, 0x6800, 8);
        // with an accumulator that loses nothing only the answer is rounded
        dots(x, 32, 2, 0, 0, 0x6802, 8);
        dots(x, 32, 2, 2, 0, Float.floatToIntBits(2053), 0);
        dots(x, 1, 0, 2, 0, Float.floatToIntBits(2053), 0);
    }

    private static void dotWithNarrowAccumulator() {
        // 300 and 300 overflow FORMAT 3 in one piece, and are 288 in two
        HalfFloats x = rows(2, new int[] {0x43960000, 0x43960000}, 2, new int[] {0x3F800000, 0x3F800000});
        dots(x, 1, 3, 2, 0, Float.floatToIntBits(576), 8);
        dots(x, 2, 3, 2, 0, Float.floatToIntBits(448), 10);
        dots(x, 2, 2, 3, 0, 126, 10);
        dots(x, 0, 3, 2, 0, Float.floatToIntBits(600), 0);
    }

    private static void dotOfShorterRow() {
        HalfFloats x = rows(0, new int[] {ONE, TWO, NAN, INF}, 2, new int[] {0x40400000, 0x40800000});
        dots(x, 0, 2, 2, 0, Float.floatToIntBits(11), 0);
        dots(x, 1, 2, 2, 0, Float.floatToIntBits(11), 0);
        dots(x, 2, 0, 0, 0, 0x4980, 0);
        HalfFloats y = rows(0, new int[] {ONE}, 2, new int[] {0x40400000, 0x7FC00000});
        dots(y, 0, 2, 2, 0, 0x40400000, 0);
        dots(y, 3, 2, 2, 0, 0x40400000, 0);
    }

    private static void dotEdges() {
        HalfFloats x = rows(0, new int[] {0, INF}, 0, new int[] {INF, 0x7C01});
        dots(x, 0, 0, 0, 0, NAN, 0);
        dots(x, 1, 0, 0, 0, NAN, 1);
        HalfFloats y = rows(0, new int[] {ONE, MINUS_INF}, 0, new int[] {INF, ONE});
        dots(y, 0, 0, 0, 0, NAN, 1);
        dots(y, 1, 0, 0, 0, NAN, 1);
        // as the accumulator's greatest value of FORMAT 3 the infinite ones cancel
        dots(y, 1, 3, 0, 0, 0, 0);
        dots(y, 1, 3, 0, 4, MINUS_ZERO, 0);
        // a product that is -0: in pieces it meets +0, alone it keeps its sign
        HalfFloats z = rows(0, new int[] {MINUS_ZERO}, 0, new int[] {ONE});
        for (int way = 0; way < 6; way++) {
            dots(z, 0, 0, 0, way, MINUS_ZERO, 0);
            dots(z, 1, 0, 0, way, way == 4 ? MINUS_ZERO : 0, 0);
        }
    }

    private static void dotDrawn() {
        HalfFloats x = rows(0, new int[] {ONE + 1, ONE + 1}, 0, new int[] {ONE + 1, ONE + 1});
        x.dot(0, 3, 0, 5);
        CHECK.due("one is drawn at once", x.seed(1), state(1));
        x.dot(2, 2, 3, 5);
        CHECK.due("the answer's is drawn", x.seed(1), state(1));
        x.dot(1, 0, 2, 5);
        CHECK.due("one is drawn in each piece", x.seed(1), state(2));
    }

    private static void dotRefuses() {
        HalfFloats x = rows(0, new int[] {ONE + 1, ONE}, 2, new int[] {0x3F800001});
        int[][] wrong = {
            {-1, 0, 3, 0}, {33, 0, 3, 0}, {1, -1, 3, 0}, {1, 4, 3, 0}, {0, -1, 3, 0}, {0, 4, 3, 0},
            {1, 0, -1, 0}, {1, 0, 4, 0}, {0, 0, 3, -1}, {0, 0, 3, 6}, {Integer.MIN_VALUE, 0, 3, 5}
        };
        for (int[] w : wrong) {
            CHECK.due("dot of " + java.util.Arrays.toString(w), x.dot(w[0], w[1], w[2], w[3]), HalfFloats.BAD);
        }
        CHECK.due("flags()", x.flags(), 0);
        CHECK.due("seed(1)", x.seed(1), 1);
    }
}
