/** Promises 17 and 18: scale, element. */
public final class BlockTest {
    private static final int APART = 1000000;
    private static final Check CHECK = new Check("BlockTest");

    public static void main(String[] args) {
        scaleOfNone();
        scaleLooksAtTheGreatest();
        scaleOfEdges();
        scaleRefuses();
        elementsOfHalves();
        elementsThatAreNoNumbers();
        elementsOverAndUnder();
        elementRefuses();
        CHECK.finish();
    }

    private static HalfFloats block(int k, int... patterns) {
        HalfFloats x = new HalfFloats();
        x.clear(0, k);
        for (int a : patterns) {
            x.push(0, a);
        }
        CHECK.due("count(0)", x.count(0), patterns.length);
        return x;
    }

    private static void scaleOfNone() {
        HalfFloats x = block(0);
        HalfFloats y = block(0, 0, 0x8000, 0x7C00, 0xFC00, 0x7E00, 0xFFFF);
        for (int e = 0; e < 4; e++) {
            CHECK.due("scale of none", x.scale(e), 0);
            CHECK.due("scale without numbers", y.scale(e), 0);
        }
    }

    /** The greatest values' powers: 15, 127, 127 and 8. */
    private static void scaleLooksAtTheGreatest() {
        HalfFloats x = block(0, 0x3C00, 0xC7FF, 0x7C00, 0x0001, 0x7C01);
        int[] due = {2 - 15, 2 - 127, 2 - 127, 2 - 8};
        for (int e = 0; e < 4; e++) {
            CHECK.due("scale(" + e + ")", x.scale(e), due[e]);
        }
        x.push(0, 0x4800);
        CHECK.due("scale of 8", x.scale(3), 3 - 8);
        x.push(0, 0xFBFF);
        CHECK.due("scale of the greatest", x.scale(3), 15 - 8);
        CHECK.due("scale into its own FORMAT", x.scale(0), 0);
        CHECK.due("flags()", x.flags(), 0);
    }

    private static void scaleOfEdges() {
        CHECK.due("scale of the least", block(2, 1, 0).scale(3), -149 - 8);
        CHECK.due("scale of the second least", block(2, 2, 0x80000003).scale(3), -148 - 8);
        CHECK.due("scale of the greatest EXP 0", block(2, 0x7FFFFF).scale(1), -127 - 127);
        HalfFloats x = block(2, 0x3F800000);
        int[][] forms = {{2, 1, 0, 1}, {2, 1, 1, 2}, {2, 1, 2, 2}, {8, 1, 1, 128}, {8, 23, 2, 128}, {5, 2, 0, 15}};
        for (int[] f : forms) {
            x.format(3, f[0], f[1], f[2]);
            CHECK.due("scale into E " + f[0] + " F " + f[1] + " KIND " + f[2], x.scale(3), -f[3]);
        }
    }

    private static void scaleRefuses() {
        HalfFloats x = block(0, 0x3C00);
        int[] wrong = {-1, 4, Integer.MIN_VALUE, Integer.MAX_VALUE};
        for (int e : wrong) {
            CHECK.due("scale(" + e + ")", x.scale(e), APART);
        }
        x.clear(0, 3);
        x.push(0, 104);
        CHECK.due("a scale that looks like BAD", x.scale(3), -2);
    }

    private static void elements(HalfFloats x, int e, int i, long due, int flags) {
        CHECK.due("element(" + e + ", " + i + ")", x.element(e, i), due);
        CHECK.due("flags() after it", x.flags(), flags);
    }

    /** 1, -1.0625, 0.25 + 2^-10, -0: the greatest power is 0, so all are told 2 to the power 8 greater. */
    private static void elementsOfHalves() {
        HalfFloats x = block(0, 0x3C00, 0xBC40, 0x3404, 0x8000);
        CHECK.due("scale(3)", x.scale(3), -8);
        elements(x, 3, 0, 120, 0);
        elements(x, 3, 1, 128 + 120, 8);
        elements(x, 3, 2, 104, 8);
        elements(x, 3, 3, 128, 0);
        x.seed(9);
        elements(x, 3, 1, 128 + 120, 8);
        CHECK.due("nothing is drawn", x.seed(1), 9);
        CHECK.due("X stays", x.at(0, 1), 0xBC40);
    }

    private static void elementsThatAreNoNumbers() {
        HalfFloats x = block(0, 0x7C00, 0xFC00, 0xFE01, 0x3C00);
        elements(x, 3, 0, 126, 0);
        elements(x, 3, 1, 254, 0);
        elements(x, 3, 2, 127, 0);
        elements(x, 3, 3, 120, 0);
        elements(x, 2, 1, 0xFF800000L, 0);
        elements(x, 2, 2, 0x7FC00000, 0);
        x.format(3, 4, 3, 2);
        elements(x, 3, 1, 127, 0);
    }

    /** The greatest one may still lie above all that the FORMAT holds; small ones sink. */
    private static void elementsOverAndUnder() {
        HalfFloats x = block(0, 0x3FFF, 0x0001, 0x8001, 0x03FF);
        elements(x, 3, 0, 126, 10);
        elements(x, 1, 0, 0x7F80, 10);
        elements(x, 3, 1, 0, 12);
        elements(x, 3, 2, 128, 12);
        HalfFloats y = block(2, 0x7F7FFFFF, 1, 0x80000001);
        y.format(3, 2, 1, 0);
        CHECK.due("scale(3)", y.scale(3), 126);
        elements(y, 3, 0, 6, 10);
        elements(y, 3, 1, 0, 12);
        elements(y, 3, 2, 8, 12);
        HalfFloats z = block(2, 1, 3);
        elements(z, 2, 0, 0x7E800000, 0);
        elements(z, 2, 1, 0x7F400000, 0);
    }

    private static void elementRefuses() {
        HalfFloats x = block(0, 0x3C01, 0x3C00);
        int[][] wrong = {
            {-1, 0}, {4, 0}, {3, -1}, {3, 2}, {3, 32}, {3, Integer.MIN_VALUE}, {3, Integer.MAX_VALUE},
            {Integer.MIN_VALUE, 0}
        };
        for (int[] w : wrong) {
            CHECK.due("element(" + w[0] + ", " + w[1] + ")", x.element(w[0], w[1]), HalfFloats.BAD);
        }
        CHECK.due("flags()", x.flags(), 0);
        x.push(1, 0);
        x.clear(0, 0);
        CHECK.due("element of an empty X", x.element(3, 0), HalfFloats.BAD);
    }
}
