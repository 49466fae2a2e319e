/** Promise 21: kept. */
public final class KeptTest {
    private static final Check CHECK = new Check("KeptTest");

    public static void main(String[] args) {
        allComeBack();
        someComeBack();
        infiniteOnes();
        leavesStateAlone();
        refusals();
        againstEachTurn();
        CHECK.finish();
    }

    private static void allComeBack() {
        HalfFloats x = new HalfFloats();
        for (int way = 0; way < 5; way++) {
            CHECK.due("kept(3, 3, " + way + ")", x.kept(3, 3, way), 254);
            CHECK.due("kept(3, 2, " + way + ")", x.kept(3, 2, way), 254);
        }
        x.format(3, 2, 1, 0);
        CHECK.due("14 of 16", x.kept(3, 2, 0), 14);
        x.format(3, 8, 3, 0);
        CHECK.due("E + F is 11", x.kept(3, 1, 0), 4096 - 14);
        x.format(3, 2, 9, 2);
        CHECK.due("E + F is 11", x.kept(3, 2, 4), 4094);
    }

    /** From E 2 F 2 KIND 1 into E 2 F 1 KIND 1: 0, 0.5, 1, 1.5, 2, 3 and 4 are there, 6 is not. */
    private static void someComeBack() {
        HalfFloats x = new HalfFloats();
        x.format(3, 2, 2, 1);
        x.format(1, 2, 1, 1);
        int[] due = {14, 14, 14, 14, 14};
        for (int way = 0; way < 5; way++) {
            CHECK.due("kept(3, 1, " + way + ")", x.kept(3, 1, way), due[way]);
        }
        CHECK.due("kept(1, 3, 0)", x.kept(1, 3, 0), 14);
    }

    private static void infiniteOnes() {
        HalfFloats x = new HalfFloats();
        x.format(3, 2, 1, 0);
        x.format(1, 4, 3, 1);
        // what is infinite becomes 448, and that overflows back, but not toward 0, or in WAY 3 and 4 from one side
        int[] due = {14, 14, 12, 13, 13};
        for (int way = 0; way < 5; way++) {
            CHECK.due("kept by KIND 1, " + way, x.kept(3, 1, way), due[way]);
        }
        x.format(1, 4, 3, 2);
        CHECK.due("kept by KIND 2", x.kept(3, 1, 0), 12);
        x.format(1, 8, 23, 0);
        CHECK.due("kept by KIND 0", x.kept(3, 1, 2), 14);
    }

    private static void leavesStateAlone() {
        HalfFloats x = new HalfFloats();
        x.seed(77);
        x.format(1, 2, 1, 0);
        for (int way = 0; way < 5; way++) {
            x.kept(3, 1, way);
        }
        CHECK.due("flags()", x.flags(), 0);
        x.turn(0, 15361, 3, 0);
        x.kept(3, 1, 0);
        CHECK.due("flags() that were on", x.flags(), 8);
        CHECK.due("seed(1)", x.seed(1), 77);
        x.push(0, 1);
        CHECK.due("a row in use is no hindrance", x.kept(3, 0, 0), 254);
    }

    private static void refusals() {
        HalfFloats x = new HalfFloats();
        int[][] wrong = {
            {-1, 0, 0}, {4, 0, 0}, {3, -1, 0}, {3, 4, 0}, {3, 0, -1}, {3, 0, 5}, {3, 0, 6}, {0, 3, 0}, {1, 3, 0},
            {2, 3, 0}, {Integer.MIN_VALUE, 0, 0}, {3, Integer.MAX_VALUE, 0}
        };
        for (int[] w : wrong) {
            CHECK.due("kept(" + w[0] + ", " + w[1] + ", " + w[2] + ")", x.kept(w[0], w[1], w[2]), HalfFloats.BAD);
        }
        x.format(3, 4, 8, 0);
        CHECK.due("E + F is 12", x.kept(3, 0, 0), HalfFloats.BAD);
        x.format(3, 4, 7, 0);
        CHECK.due("E + F is 11", x.kept(3, 2, 0), 4096 - 2 * 127);
    }

    /** The same by turns there and back, told one by one. */
    private static void againstEachTurn() {
        int[][] pairs = {{4, 3, 1, 5, 2, 0}, {5, 2, 0, 4, 3, 1}, {3, 4, 2, 4, 3, 2}, {6, 5, 0, 5, 6, 1}};
        for (int[] p : pairs) {
            for (int way = 0; way < 5; way++) {
                int same = 0;
                for (int a = 0; a < 2 << (p[0] + p[1]); a++) {
                    HalfFloats x = ofPair(p);
                    boolean number = x.part(3, a, 0) != 4;
                    same += number && x.turn(1, (int) x.turn(3, a, 1, way), 3, way) == a ? 1 : 0;
                }
                CHECK.due("kept in WAY " + way, ofPair(p).kept(3, 1, way), same);
            }
        }
    }

    /** A new one for each PATTERN: an object is good for 512 calls. */
    private static HalfFloats ofPair(int[] p) {
        HalfFloats x = new HalfFloats();
        x.format(3, p[0], p[1], p[2]);
        x.format(1, p[3], p[4], p[5]);
        return x;
    }
}
