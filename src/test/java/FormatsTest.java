/** Promises 1 to 4: a new object, format, form, part. */
public final class FormatsTest {
    private static final int APART = 1000000;
    private static final Check CHECK = new Check("FormatsTest");

    public static void main(String[] args) {
        newObject();
        formatTakesItsBounds();
        formatRefuses();
        formatOfRowsInUse();
        formTellsEdges();
        partOfWideAndNarrow();
        partOfEachOfSixteen();
        partRefuses();
        CHECK.finish();
    }

    private static void newObject() {
        HalfFloats x = new HalfFloats();
        int[][] due = {
            {5, 10, 0, 0x7BFF, 0x7E00}, {8, 7, 0, 0x7F7F, 0x7FC0},
            {8, 23, 0, 0x7F7FFFFF, 0x7FC00000}, {4, 3, 1, 126, 127}
        };
        for (int k = 0; k < 4; k++) {
            for (int what = 0; what < 5; what++) {
                CHECK.due("form(" + k + ", " + what + ")", x.form(k, what), due[k][what]);
            }
        }
        int[] counts = {0, 0, 0, 2, 0, 0, 3};
        for (int what = 0; what < counts.length; what++) {
            CHECK.due("count(" + what + ")", x.count(what), counts[what]);
        }
        CHECK.due("at(0, 0)", x.at(0, 0), HalfFloats.BAD);
        CHECK.due("at(1, 0)", x.at(1, 0), HalfFloats.BAD);
        CHECK.due("flags()", x.flags(), 0);
        CHECK.due("seed(5)", x.seed(5), 1);
        CHECK.due("another object's seed", new HalfFloats().seed(7), 1);
    }

    private static void formatTakesItsBounds() {
        HalfFloats x = new HalfFloats();
        int[][] takes = {{0, 2, 1, 0}, {1, 8, 23, 1}, {2, 2, 23, 2}, {3, 8, 1, 0}};
        for (int[] t : takes) {
            CHECK.due("format of " + t[0], x.format(t[0], t[1], t[2], t[3]), 1);
            for (int what = 0; what < 3; what++) {
                CHECK.due("form(" + t[0] + ", " + what + ")", x.form(t[0], what), t[what + 1]);
            }
        }
    }

    private static void formatRefuses() {
        HalfFloats x = new HalfFloats();
        int[][] wrong = {
            {-1, 5, 10, 0}, {4, 5, 10, 0}, {3, 1, 3, 0}, {3, 9, 3, 0}, {3, 4, 0, 0}, {3, 4, 24, 0},
            {3, 5, 2, -1}, {3, 5, 2, 3}, {Integer.MIN_VALUE, 5, 10, 0}, {Integer.MAX_VALUE, 5, 10, 0},
            {3, Integer.MIN_VALUE, 3, 0}, {3, 4, Integer.MAX_VALUE, 0}
        };
        for (int[] w : wrong) {
            CHECK.due("format(" + w[0] + ", " + w[1] + ", " + w[2] + ", " + w[3] + ")",
                x.format(w[0], w[1], w[2], w[3]), HalfFloats.BAD);
        }
        CHECK.due("form(3, 0)", x.form(3, 0), 4);
        CHECK.due("form(3, 1)", x.form(3, 1), 3);
        CHECK.due("form(3, 2)", x.form(3, 2), 1);
    }

    private static void formatOfRowsInUse() {
        HalfFloats x = new HalfFloats();
        CHECK.due("format of empty X", x.format(0, 2, 1, 0), 1);
        CHECK.due("push of other bits", x.push(0, 16), HalfFloats.BAD);
        CHECK.due("push", x.push(0, 15), 1);
        CHECK.due("format of X", x.format(0, 2, 1, 0), HalfFloats.BAD);
        CHECK.due("form(0, 0)", x.form(0, 0), 2);
        CHECK.due("format of empty Y", x.format(2, 5, 10, 0), 1);
        CHECK.due("push in Y", x.push(1, 0), 1);
        CHECK.due("format of Y", x.format(2, 8, 23, 0), HalfFloats.BAD);
        CHECK.due("format of no row", x.format(1, 3, 3, 2), 1);
        CHECK.due("clear X", x.clear(0, 1), 1);
        CHECK.due("format that was X's", x.format(0, 5, 10, 0), 1);
        CHECK.due("format of X, empty again", x.format(1, 4, 4, 0), 1);
        CHECK.due("X becomes Y's", x.clear(0, 2), 0);
        CHECK.due("format of empty X and full Y", x.format(2, 8, 7, 0), HalfFloats.BAD);
        CHECK.due("clear Y", x.clear(1, 3), 1);
        CHECK.due("format of X alone", x.format(2, 8, 7, 0), 1);
    }

    private static void formTellsEdges() {
        HalfFloats x = new HalfFloats();
        int[][] edges = {
            {2, 1, 0, 5, 7}, {2, 1, 1, 6, 7}, {2, 1, 2, 6, 7}, {5, 2, 0, 123, 126}, {5, 2, 2, 126, 127},
            {8, 23, 1, 2147483646, 2147483647}, {8, 23, 2, 2147483646, 2147483647}, {3, 4, 0, 111, 120}
        };
        for (int[] e : edges) {
            x.format(3, e[0], e[1], e[2]);
            String name = "E " + e[0] + " F " + e[1] + " KIND " + e[2];
            CHECK.due("greatest of " + name, x.form(3, 3), e[3]);
            CHECK.due("NAN of " + name, x.form(3, 4), e[4]);
            CHECK.due("KIND of " + name, x.form(3, 2), e[2]);
        }
        int[][] wrong = {{-1, 0}, {4, 0}, {0, -1}, {0, 5}, {Integer.MIN_VALUE, 0}, {0, Integer.MAX_VALUE}};
        for (int[] w : wrong) {
            CHECK.due("form(" + w[0] + ", " + w[1] + ")", x.form(w[0], w[1]), HalfFloats.BAD);
        }
    }

    private static void parts(HalfFloats x, int k, int a, int sort, int sign, int whole, int power) {
        int[] due = {sort, sign, whole, power};
        for (int what = 0; what < 4; what++) {
            CHECK.due("part(" + k + ", " + a + ", " + what + ")", x.part(k, a, what), due[what]);
        }
    }

    private static void partOfWideAndNarrow() {
        HalfFloats x = new HalfFloats();
        parts(x, 2, 0, 0, 0, 0, 0);
        parts(x, 2, 0x80000000, 0, 1, 0, 0);
        parts(x, 2, 1, 1, 0, 1, -149);
        parts(x, 2, 0x807FFFFF, 1, 1, 0x7FFFFF, -149);
        parts(x, 2, 0x00800000, 2, 0, 0x800000, -149);
        parts(x, 2, 0x3F800000, 2, 0, 0x800000, -23);
        parts(x, 2, 0xFF7FFFFF, 2, 1, 0xFFFFFF, 104);
        parts(x, 2, 0x7F800000, 3, 0, 0, 0);
        parts(x, 2, 0xFF800000, 3, 1, 0, 0);
        parts(x, 2, 0x7F800001, 4, 0, 0, 0);
        parts(x, 2, -1, 4, 1, 0, 0);
        parts(x, 0, 0xFC00, 3, 1, 0, 0);
        parts(x, 3, 120, 2, 0, 8, 5);
        parts(x, 3, 254, 2, 1, 14, 5);
        parts(x, 3, 127, 4, 0, 0, 0);
        parts(x, 3, 255, 4, 1, 0, 0);
        x.format(3, 8, 23, 1);
        parts(x, 3, 0x7F800000, 2, 0, 0x800000, 105);
        parts(x, 3, 0xFFFFFFFE, 2, 1, 0xFFFFFE, 105);
        parts(x, 3, -1, 4, 1, 0, 0);
        CHECK.due("flags()", x.flags(), 0);
    }

    private static void partOfEachOfSixteen() {
        int[] sorts = {0, 1, 2, 2, 2, 2, 3, 4};
        int[] wholes = {0, 1, 2, 3, 2, 3, 2, 3};
        int[] powers = {0, -1, -1, -1, 0, 0, 1, 1};
        HalfFloats x = new HalfFloats();
        for (int kind = 0; kind < 3; kind++) {
            x.format(3, 2, 1, kind);
            for (int a = 0; a < 16; a++) {
                int sort = a % 8 == 6 && kind != 0 ? 2 : sorts[a % 8];
                boolean counts = sort == 1 || sort == 2;
                parts(x, 3, a, sort, a / 8, counts ? wholes[a % 8] : 0, counts ? powers[a % 8] : 0);
            }
        }
    }

    private static void partRefuses() {
        HalfFloats x = new HalfFloats();
        int[][] wrong = {
            {-1, 0, 0}, {4, 0, 0}, {0, 65536, 0}, {0, -1, 0}, {0, Integer.MIN_VALUE, 1}, {3, 256, 2},
            {1, 65536, 3}, {0, 0, -1}, {0, 0, 4}, {2, 0, 4}, {2, 0, Integer.MIN_VALUE}, {Integer.MAX_VALUE, 0, 0}
        };
        for (int[] w : wrong) {
            CHECK.due("part(" + w[0] + ", " + w[1] + ", " + w[2] + ")", x.part(w[0], w[1], w[2]), APART);
        }
        x.format(3, 8, 22, 0);
        CHECK.due("part of 31 bits", x.part(3, 0x7FFFFFFF, 1), 1);
        CHECK.due("part of 32 bits where there are 31", x.part(3, 0x80000000, 1), APART);
    }
}
