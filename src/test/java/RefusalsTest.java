import java.util.ArrayList;
import java.util.Arrays;
import java.util.List;
import java.util.Random;

/** REFUSALS of every call: each argument out of its bounds, alone and with another one; nothing changes. */
public final class RefusalsTest {
    private static final Check CHECK = new Check("RefusalsTest");
    private static final int BAD = -2, APART = 1000000, FULL = -3;
    private static final int ONE = 0x3C00;

    private static final int[] NO_FORMAT = around(0, 3);
    private static final int[] NO_WAY = around(0, 5);
    private static final int[] NO_ROW = around(0, 1);
    private static final int[] NO_PATTERN = {65536, 65537, 0x40000000, -1, -65536, Integer.MIN_VALUE, Integer.MAX_VALUE};
    private static final int[] NO_NARROW = {128, 255, 65535, -1, -128, Integer.MIN_VALUE, Integer.MAX_VALUE};

    private interface Ask {
        long of(HalfFloats x, int[] a);
    }

    /** A call with arguments that are taken, and for each of them those that are not. */
    private record Call(String name, Ask ask, long bad, int[] right, int[]... wrong) {
    }

    public static void main(String[] args) {
        CHECK.sentence("BAD (a number is none, or out of its bounds: a FORMAT, a WAY 0 .. 5, a PATTERN with other bits)");
        calls().forEach(RefusalsTest::eachArgument);
        CHECK.sentence("BAD first");
        calls().forEach(RefusalsTest::twoArguments);
        CHECK.sentence("then what a call names, in the order named");
        full();
        CHECK.sentence("What is refused changes nothing");
        calls().forEach(RefusalsTest::nothingChanges);
        CHECK.sentence("no call throws, whatever its arguments");
        anyArguments();
        CHECK.finish();
    }

    /** The numbers just outside of these bounds, and far outside. */
    private static int[] around(int first, int last) {
        return new int[] {first - 1, last + 1, Integer.MIN_VALUE, Integer.MAX_VALUE};
    }

    private static int[] and(int[] wrong, int... more) {
        int[] all = Arrays.copyOf(wrong, wrong.length + more.length);
        System.arraycopy(more, 0, all, wrong.length, more.length);
        return all;
    }

    /** X full and of FORMAT 0, Y with two and of FORMAT 1, FORMAT 3 of 7 bits; FLAGS, state and scaler not as at first. */
    private static HalfFloats prepared() {
        HalfFloats x = new HalfFloats();
        x.format(3, 4, 2, 2);
        x.clear(1, 1);
        for (int i = 0; i < 32; i++) {
            x.push(0, ONE + i);
        }
        x.push(1, 0x3F80);
        x.push(1, 0x4000);
        x.reckon(1, 0, 0x7C00, 0, 0x7C00, 0, 0);
        x.turn(2, 1, 3, 0);
        x.turn(2, 0x7F7FFFFF, 3, 0);
        x.seed(77);
        x.scaler(5, 4);
        x.step(0);
        x.step(0);
        return x;
    }

    private static List<Call> calls() {
        List<Call> all = new ArrayList<>();
        all.add(new Call("format", (x, a) -> x.format(a[0], a[1], a[2], a[3]), BAD, new int[] {2, 5, 2, 1},
            and(NO_FORMAT, 0, 1), and(around(2, 8), 0), around(1, 23), around(0, 2)));
        all.add(new Call("form", (x, a) -> x.form(a[0], a[1]), BAD, new int[] {3, 0}, NO_FORMAT, around(0, 4)));
        all.add(new Call("part", (x, a) -> x.part(a[0], a[1], a[2]), APART, new int[] {0, 1, 0},
            NO_FORMAT, NO_PATTERN, around(0, 3)));
        all.add(new Call("turn", (x, a) -> x.turn(a[0], a[1], a[2], a[3]), BAD, new int[] {0, ONE + 1, 3, 5},
            NO_FORMAT, NO_PATTERN, NO_FORMAT, NO_WAY));
        all.add(new Call("reckon", (x, a) -> x.reckon(a[0], a[1], a[2], a[3], a[4], a[5], a[6]), BAD,
            new int[] {0, 0, ONE + 1, 1, 0x3F81, 3, 5},
            around(0, 2), NO_FORMAT, NO_PATTERN, NO_FORMAT, NO_PATTERN, NO_FORMAT, NO_WAY));
        all.add(new Call("fused", (x, a) -> x.fused(a[0], a[1], a[2], a[3], a[4], a[5]), BAD,
            new int[] {0, ONE + 1, ONE + 1, 3, 5, 5},
            NO_FORMAT, NO_PATTERN, NO_PATTERN, NO_FORMAT, NO_NARROW, NO_WAY));
        all.add(new Call("compare", (x, a) -> x.compare(a[0], a[1], a[2], a[3]), BAD, new int[] {0, 1, 3, 1},
            NO_FORMAT, NO_PATTERN, NO_FORMAT, NO_NARROW));
        all.add(new Call("seed", (x, a) -> x.seed(a[0]), BAD, new int[] {5}, and(around(1, 2147483646), -1)));
        all.add(new Call("clear", (x, a) -> x.clear(a[0], a[1]), BAD, new int[] {0, 3}, NO_ROW, NO_FORMAT));
        all.add(new Call("push", (x, a) -> x.push(a[0], a[1]), BAD, new int[] {1, 5}, NO_ROW, NO_PATTERN));
        all.addAll(callsOfRows());
        return all;
    }

    private static List<Call> callsOfRows() {
        List<Call> all = new ArrayList<>();
        all.add(new Call("at", (x, a) -> x.at(a[0], a[1]), BAD, new int[] {0, 31}, NO_ROW, around(0, 31)));
        all.add(new Call("at", (x, a) -> x.at(a[0], a[1]), BAD, new int[] {1, 1}, NO_ROW, and(around(0, 1), 31)));
        all.add(new Call("count", (x, a) -> x.count(a[0]), APART, new int[] {4}, around(0, 6)));
        for (int how = 0; how < 3; how++) {
            all.add(new Call("sum", (x, a) -> x.sum(a[0], a[1], a[2], a[3]), BAD, new int[] {0, how, 3, 5},
                NO_ROW, around(0, 2), NO_FORMAT, NO_WAY));
        }
        int[] pieces = {0, 1, 32};
        for (int c : pieces) {
            all.add(new Call("dot", (x, a) -> x.dot(a[0], a[1], a[2], a[3]), BAD, new int[] {c, 3, 3, 5},
                around(0, 32), NO_FORMAT, NO_FORMAT, NO_WAY));
        }
        all.add(new Call("scale", (x, a) -> x.scale(a[0]), APART, new int[] {3}, NO_FORMAT));
        all.add(new Call("element", (x, a) -> x.element(a[0], a[1]), BAD, new int[] {3, 31},
            NO_FORMAT, around(0, 31)));
        all.add(new Call("scaler", (x, a) -> x.scaler(a[0], a[1]), BAD, new int[] {1, 1},
            around(-60, 60), around(1, 100)));
        all.add(new Call("step", (x, a) -> x.step(a[0]), BAD, new int[] {5}, NO_PATTERN));
        all.add(new Call("kept", (x, a) -> x.kept(a[0], a[1], a[2]), BAD, new int[] {3, 0, 0},
            and(NO_FORMAT, 0, 1, 2), NO_FORMAT, and(NO_WAY, 5)));
        return all;
    }

    private static int[] with(int[] args, int i, int value) {
        int[] changed = args.clone();
        changed[i] = value;
        return changed;
    }

    private static void refused(Call call, int[] args) {
        CHECK.due(call.name + Arrays.toString(args), call.ask.of(prepared(), args), call.bad);
    }

    private static void eachArgument(Call call) {
        long taken = call.ask.of(prepared(), call.right);
        CHECK.holds(call.name + " takes " + Arrays.toString(call.right), taken != BAD && taken != APART);
        for (int i = 0; i < call.right.length; i++) {
            for (int value : call.wrong[i]) {
                refused(call, with(call.right, i, value));
            }
        }
    }

    private static void twoArguments(Call call) {
        CHECK.holds(call.name + " has bounds", call.wrong.length == call.right.length);
        for (int i = 0; i < call.right.length; i++) {
            for (int j = i + 1; j < call.right.length; j++) {
                for (int value : call.wrong[i]) {
                    refused(call, with(with(call.right, i, value), j, call.wrong[j][0]));
                    refused(call, with(with(call.right, i, value), j, call.wrong[j][1]));
                }
            }
        }
    }

    private static void full() {
        HalfFloats x = prepared();
        CHECK.due("push of no PATTERN into a full row", x.push(0, 65536), BAD);
        CHECK.due("push into a full row", x.push(0, 65535), FULL);
        CHECK.due("push into a full row", x.push(0, 0), FULL);
        CHECK.due("push into the other row", x.push(1, 65535), 3);
        String before = seen(prepared());
        HalfFloats y = prepared();
        CHECK.due("push into a full row", y.push(0, 1), FULL);
        CHECK.holds("push that is FULL changes nothing", seen(y).equals(before));
    }

    /** All that can be seen of an object; it is not as it was afterwards. */
    private static String seen(HalfFloats x) {
        StringBuilder all = new StringBuilder();
        for (int k = 0; k < 4; k++) {
            for (int what = 0; what < 5; what++) {
                all.append(x.form(k, what)).append(' ');
            }
        }
        for (int what = 0; what < 7; what++) {
            all.append(x.count(what)).append(' ');
        }
        for (int r = 0; r < 2; r++) {
            for (int i = 0; i < 32; i++) {
                all.append(x.at(r, i)).append(' ');
            }
        }
        return all.append(x.seed(1)).append(' ').append(x.flags()).toString();
    }

    private static void nothingChanges(Call call) {
        String before = seen(prepared());
        CHECK.holds("all FLAGS are on, and the state is 77", before.endsWith(" 77 15"));
        for (int i = 0; i < call.right.length; i++) {
            for (int value : call.wrong[i]) {
                HalfFloats x = prepared();
                int[] args = with(call.right, i, value);
                call.ask.of(x, args);
                CHECK.holds(call.name + Arrays.toString(args) + " changes nothing", seen(x).equals(before));
            }
        }
    }

    private static void anyArguments() {
        int[] edges = {Integer.MIN_VALUE, Integer.MIN_VALUE + 1, -65536, -61, -60, -2, -1, 0, 1, 2, 3, 4, 5, 6, 7, 8, 9,
            23, 24, 31, 32, 33, 60, 61, 100, 101, 127, 128, 255, 0x7BFF, 0x7C00, 0x7FFF, 0x8000, 0xFFFF, 0x10000,
            0x7F800000, 0xFF7FFFFF, Integer.MAX_VALUE - 1, Integer.MAX_VALUE};
        Random random = new Random(3);
        List<Call> all = calls();
        for (int run = 0; run < 2000; run++) {
            HalfFloats x = run % 2 == 0 ? prepared() : new HalfFloats();
            for (int i = 0; i < 400; i++) {
                Call call = all.get(random.nextInt(all.size()));
                int[] args = new int[call.right.length];
                for (int j = 0; j < args.length; j++) {
                    args[j] = random.nextInt(3) == 0 ? edges[random.nextInt(edges.length)] : random.nextInt(5);
                }
                if (!call.name.equals("kept") || random.nextInt(20) == 0) {
                    call.ask.of(x, args);
                }
            }
            CHECK.holds("FLAGS are 0 .. 15", (x.flags() & ~15) == 0);
        }
    }
}
