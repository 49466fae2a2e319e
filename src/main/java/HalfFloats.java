import java.util.Arrays;

/** Narrow floats for learning; the document's numbered promises say what each call answers. */
public final class HalfFloats {
    public static final int NONE = -1, BAD = -2, FULL = -3;

    /** BAD of the calls in which -2 can be a true answer. */
    private static final int BAD_APART = 1000000;

    private static final int FORMATS = 4;
    private static final int ROWS = 2;
    private static final int ROW_LIMIT = 32;
    private static final int KINDS = 3;
    private static final int LAST_SEED = 2147483646;
    private static final int SHIFT_LIMIT = 60;
    private static final int GOAL_LIMIT = 100;
    private static final int KEPT_WIDTH = 11;

    private static final int ZERO = 0, TINY = 1, NORMAL = 2, INFINITE = 3, NOT_A_NUMBER = 4;

    private static final int TO_EVEN = 0, TO_FAR = 1, TO_ZERO = 2, UPWARD = 3, DOWNWARD = 4, DRAWN = 5;

    private static final long LOW_HALF = 0xFFFFFFFFL;

    private final Format[] formats;
    private final Row rowX;
    private final Row rowY;
    private final Exact exact;
    private final Rounder rounder;
    private final int[] tree;
    private int shift;
    private int streak;
    private int goal;

    public HalfFloats() {
        formats = new Format[] {
            new Format(5, 10, 0), new Format(8, 7, 0), new Format(8, 23, 0), new Format(4, 3, 1)
        };
        rowX = new Row(0);
        rowY = new Row(2);
        exact = new Exact();
        rounder = new Rounder();
        tree = new int[ROW_LIMIT];
        shift = 0;
        streak = 0;
        goal = 3;
    }

    public int format(int k, int e, int f, int kind) {
        if (!isFormat(k) || e < 2 || e > 8 || f < 1 || f > 23 || kind < 0 || kind >= KINDS) {
            return BAD;
        }
        if (rowX.uses(k) || rowY.uses(k)) {
            return BAD;
        }
        formats[k].become(e, f, kind);
        return 1;
    }

    public int form(int k, int what) {
        if (!isFormat(k)) {
            return BAD;
        }
        Format form = formats[k];
        switch (what) {
            case 0: return form.expBits;
            case 1: return form.fracBits;
            case 2: return form.kind;
            case 3: return form.limit - 1;
            case 4: return form.theNan;
            default: return BAD;
        }
    }

    public int part(int k, int a, int what) {
        if (!isPattern(k, a)) {
            return BAD_APART;
        }
        Format form = formats[k];
        int sort = form.sortOf(a);
        boolean counts = sort == TINY || sort == NORMAL;
        switch (what) {
            case 0: return sort;
            case 1: return form.isNegative(a) ? 1 : 0;
            case 2: return counts ? (int) form.wholeOf(a) : 0;
            case 3: return counts ? form.powerOf(a) : 0;
            default: return BAD_APART;
        }
    }

    public long turn(int k, int a, int m, int way) {
        if (!isPattern(k, a) || !isFormat(m) || !isWay(way)) {
            return BAD;
        }
        return bits(rounder.turned(formats[k], a, 0, formats[m], way));
    }

    public long reckon(int how, int k, int a, int m, int b, int n, int way) {
        if (how < 0 || how > 2 || !isPattern(k, a) || !isPattern(m, b) || !isFormat(n) || !isWay(way)) {
            return BAD;
        }
        exact.begin();
        if (how == 2) {
            exact.addProduct(formats[k], a, formats[m], b);
        } else {
            exact.addValue(formats[k], a, false);
            exact.addValue(formats[m], b, how == 1);
        }
        return bits(rounder.rounded(exact, formats[n], way));
    }

    public long fused(int k, int a, int b, int n, int c, int way) {
        if (!isPattern(k, a) || !isPattern(k, b) || !isPattern(n, c) || !isWay(way)) {
            return BAD;
        }
        exact.begin();
        exact.addProduct(formats[k], a, formats[k], b);
        exact.addValue(formats[n], c, false);
        return bits(rounder.rounded(exact, formats[n], way));
    }

    public int compare(int k, int a, int m, int b) {
        if (!isPattern(k, a) || !isPattern(m, b)) {
            return BAD;
        }
        exact.begin();
        exact.addValue(formats[k], a, false);
        exact.addValue(formats[m], b, true);
        return exact.hasNan ? 2 : exact.side();
    }

    public int flags() {
        int told = rounder.raised;
        rounder.raised = 0;
        return told;
    }

    public int seed(int s) {
        if (s < 1 || s > LAST_SEED) {
            return BAD;
        }
        int before = (int) rounder.state;
        rounder.state = s;
        return before;
    }

    public int clear(int r, int k) {
        if (!isRow(r) || !isFormat(k)) {
            return BAD;
        }
        Row row = rowOf(r);
        int had = row.size;
        row.size = 0;
        row.format = k;
        return had;
    }

    public int push(int r, int a) {
        if (!isRow(r) || !isPattern(rowOf(r).format, a)) {
            return BAD;
        }
        Row row = rowOf(r);
        if (row.size >= ROW_LIMIT) {
            return FULL;
        }
        row.patterns[row.size] = a;
        row.size++;
        return row.size;
    }

    public long at(int r, int i) {
        if (!isRow(r) || !rowOf(r).has(i)) {
            return BAD;
        }
        return bits(rowOf(r).patterns[i]);
    }

    public int count(int what) {
        switch (what) {
            case 0: return rowX.size;
            case 1: return rowY.size;
            case 2: return rowX.format;
            case 3: return rowY.format;
            case 4: return shift;
            case 5: return streak;
            case 6: return goal;
            default: return BAD_APART;
        }
    }

    public long sum(int r, int how, int n, int way) {
        if (!isRow(r) || how < 0 || how > 2 || !isFormat(n) || !isWay(way)) {
            return BAD;
        }
        Row row = rowOf(r);
        Format answer = formats[n];
        if (how == 0) {
            return bits(sumFromLeft(row, answer, way));
        }
        return bits(how == 1 ? sumAsTree(row, answer, way) : sumAtOnce(row, answer, way));
    }

    public long dot(int c, int m, int n, int way) {
        if (c < 0 || c > ROW_LIMIT || !isFormat(m) || !isFormat(n) || !isWay(way)) {
            return BAD;
        }
        if (c == 0) {
            return bits(productsAtOnce(formats[n], way));
        }
        return bits(productsInPieces(c, formats[m], formats[n], way));
    }

    public int scale(int e) {
        return isFormat(e) ? blockScale(formats[e]) : BAD_APART;
    }

    public long element(int e, int i) {
        if (!isFormat(e) || !rowX.has(i)) {
            return BAD;
        }
        int down = -blockScale(formats[e]);
        return bits(rounder.turned(formats[rowX.format], rowX.patterns[i], down, formats[e], TO_EVEN));
    }

    public int scaler(int s, int g) {
        if (s < -SHIFT_LIMIT || s > SHIFT_LIMIT || g < 1 || g > GOAL_LIMIT) {
            return BAD;
        }
        shift = s;
        goal = g;
        streak = 0;
        return 1;
    }

    public int step(int r) {
        if (!isPattern(rowY.format, r)) {
            return BAD;
        }
        if (slopesBroke()) {
            shift = Math.max(shift - 1, -SHIFT_LIMIT);
            streak = 0;
            return 0;
        }
        int length = Math.min(rowX.size, rowY.size);
        for (int i = 0; i < length; i++) {
            rowY.patterns[i] = stepped(rowY.patterns[i], r, rowX.patterns[i]);
        }
        streak++;
        if (streak >= goal) {
            shift = Math.min(shift + 1, SHIFT_LIMIT);
            streak = 0;
        }
        return 1;
    }

    public int kept(int k, int m, int way) {
        if (!isFormat(k) || !isFormat(m) || way < TO_EVEN || way >= DRAWN) {
            return BAD;
        }
        if (formats[k].width > KEPT_WIDTH) {
            return BAD;
        }
        int before = rounder.raised;
        int patterns = 2 << formats[k].width;
        int same = 0;
        for (int a = 0; a < patterns; a++) {
            if (comesBack(formats[k], a, formats[m], way)) {
                same++;
            }
        }
        rounder.raised = before;
        return same;
    }

    private static boolean isFormat(int k) {
        return k >= 0 && k < FORMATS;
    }

    private static boolean isRow(int r) {
        return r >= 0 && r < ROWS;
    }

    private static boolean isWay(int way) {
        return way >= TO_EVEN && way <= DRAWN;
    }

    private boolean isPattern(int k, int a) {
        return isFormat(k) && formats[k].holds(a);
    }

    private Row rowOf(int r) {
        return r == 0 ? rowX : rowY;
    }

    private static long bits(int pattern) {
        return pattern & LOW_HALF;
    }

    /** SUM of a (of FORMAT k) and b, which is of the answer's FORMAT. */
    private int plus(Format k, int a, Format answer, int b, int way) {
        exact.begin();
        exact.addValue(k, a, false);
        exact.addValue(answer, b, false);
        return rounder.rounded(exact, answer, way);
    }

    private int sumFromLeft(Row row, Format answer, int way) {
        if (row.size == 0) {
            return 0;
        }
        Format from = formats[row.format];
        int total = rounder.turned(from, row.patterns[0], 0, answer, way);
        for (int i = 1; i < row.size; i++) {
            total = plus(from, row.patterns[i], answer, total, way);
        }
        return total;
    }

    private int sumAsTree(Row row, Format answer, int way) {
        if (row.size == 0) {
            return 0;
        }
        for (int i = 0; i < row.size; i++) {
            tree[i] = rounder.turned(formats[row.format], row.patterns[i], 0, answer, way);
        }
        for (int left = row.size; left > 1; left = (left + 1) / 2) {
            pairUp(left, answer, way);
        }
        return tree[0];
    }

    /** One level of the tree: no pair is written over before it has been read. */
    private void pairUp(int left, Format answer, int way) {
        for (int i = 0; i + 1 < left; i += 2) {
            tree[i / 2] = plus(answer, tree[i], answer, tree[i + 1], way);
        }
        if (left % 2 == 1) {
            tree[left / 2] = tree[left - 1];
        }
    }

    private int sumAtOnce(Row row, Format answer, int way) {
        exact.begin();
        for (int i = 0; i < row.size; i++) {
            exact.addValue(formats[row.format], row.patterns[i], false);
        }
        return rounder.rounded(exact, answer, way);
    }

    private int productsAtOnce(Format answer, int way) {
        int length = Math.min(rowX.size, rowY.size);
        exact.begin();
        for (int i = 0; i < length; i++) {
            addProductAt(i);
        }
        return rounder.rounded(exact, answer, way);
    }

    private int productsInPieces(int c, Format accumulator, Format answer, int way) {
        int length = Math.min(rowX.size, rowY.size);
        int total = 0;
        int piece = 0;
        int inPiece = 0;
        for (int i = 0; i < length; i++) {
            exact.begin();
            exact.addValue(accumulator, piece, false);
            addProductAt(i);
            piece = rounder.rounded(exact, accumulator, way);
            inPiece++;
            if (inPiece == c || i == length - 1) {
                total = plus(accumulator, piece, answer, total, way);
                piece = 0;
                inPiece = 0;
            }
        }
        return total;
    }

    private void addProductAt(int i) {
        exact.addProduct(formats[rowX.format], rowX.patterns[i], formats[rowY.format], rowY.patterns[i]);
    }

    private int blockScale(Format elements) {
        Format from = formats[rowX.format];
        int greatest = 0;
        for (int i = 0; i < rowX.size; i++) {
            int a = rowX.patterns[i];
            if (from.sortOf(a) < INFINITE) {
                // patterns without their signs stand in the order of their values
                greatest = Math.max(greatest, from.unsigned(a));
            }
        }
        return greatest == 0 ? 0 : from.topOf(greatest) - elements.topOf(elements.limit - 1);
    }

    private boolean slopesBroke() {
        Format from = formats[rowX.format];
        for (int i = 0; i < rowX.size; i++) {
            if (from.sortOf(rowX.patterns[i]) >= INFINITE) {
                return true;
            }
        }
        return false;
    }

    private int stepped(int weight, int rate, int slope) {
        Format form = formats[rowY.format];
        int unscaled = rounder.turned(formats[rowX.format], slope, -shift, form, TO_EVEN);
        exact.begin();
        exact.addProduct(form, form.turnedOver(rate), form, unscaled);
        int change = rounder.rounded(exact, form, TO_EVEN);
        return plus(form, weight, form, change, TO_EVEN);
    }

    private boolean comesBack(Format k, int a, Format m, int way) {
        if (k.sortOf(a) == NOT_A_NUMBER) {
            return false;
        }
        return rounder.turned(m, rounder.turned(k, a, 0, m, way), 0, k, way) == a;
    }

    /** A FORMAT, and how its PATTERNS are read. */
    private static final class Format {
        int expBits;
        int fracBits;
        int kind;
        /** EXP's and FRAC's bits together. */
        int width;
        /** The least unsigned pattern that is no finite value. */
        int limit;
        int theNan;
        /** The power of 2 of the least value whose EXP is not 0. */
        int leastTop;
        /** The power of 2 by which FRAC counts where EXP is 0. */
        int leastPower;

        Format(int e, int f, int newKind) {
            become(e, f, newKind);
        }

        void become(int e, int f, int newKind) {
            expBits = e;
            fracBits = f;
            kind = newKind;
            width = e + f;
            int infinite = ((1 << e) - 1) << f;
            int allOnes = infinite + (1 << f) - 1;
            limit = newKind == 0 ? infinite : allOnes;
            theNan = newKind == 0 ? infinite + (1 << (f - 1)) : allOnes;
            int bias = (1 << (e - 1)) - 1;
            leastTop = 1 - bias;
            leastPower = leastTop - f;
        }

        boolean holds(int a) {
            return width >= 31 || a >>> (width + 1) == 0;
        }

        int unsigned(int a) {
            return a & (int) ((1L << width) - 1);
        }

        boolean isNegative(int a) {
            return (a >>> width & 1) == 1;
        }

        int signed(boolean negative, int unsigned) {
            return negative ? unsigned | 1 << width : unsigned;
        }

        int turnedOver(int a) {
            return a ^ 1 << width;
        }

        int sortOf(int a) {
            int size = unsigned(a);
            if (size == 0) {
                return ZERO;
            }
            if (size < limit) {
                return size >>> fracBits == 0 ? TINY : NORMAL;
            }
            return size == limit && kind == 0 ? INFINITE : NOT_A_NUMBER;
        }

        /** The whole number of a finite value, 0 of zero. */
        long wholeOf(int a) {
            int size = unsigned(a);
            int frac = size & (1 << fracBits) - 1;
            return size >>> fracBits == 0 ? frac : frac + (1 << fracBits);
        }

        int powerOf(int a) {
            return leastPower + Math.max(unsigned(a) >>> fracBits, 1) - 1;
        }

        /** The greatest power of 2 that is not above a finite value that is not 0. */
        int topOf(int a) {
            return powerOf(a) + 63 - Long.numberOfLeadingZeros(wholeOf(a));
        }
    }

    /** A row's PATTERNS; their place is made once. */
    private static final class Row {
        final int[] patterns;
        int size;
        int format;

        Row(int k) {
            patterns = new int[ROW_LIMIT];
            size = 0;
            format = k;
        }

        boolean has(int i) {
            return i >= 0 && i < size;
        }

        boolean uses(int k) {
            return size > 0 && format == k;
        }
    }

    /** The exact total of a SUM's terms, together with what no total can hold: NAN, infinite terms, signs of zeros. */
    private static final class Exact {
        /** Products reach from 2 to the power -298 up to 2 to the power 258: the limbs hold 32 of them, and more. */
        private static final int LOWEST = -320;
        private static final int LIMBS = 20;
        /** As many bits as leave the shifts of a long without its sign. */
        private static final int TAKEN = 62;

        boolean hasNan;
        boolean zeroTimesInfinite;
        boolean plusInfinite;
        boolean minusInfinite;
        private boolean plusSeen;
        private boolean minusSeen;
        private int nonzero;
        /** The total, once settled: whole times 2 to the power, and if there is more, less than a whole one above. */
        boolean negative;
        long whole;
        int power;
        boolean more;
        /** 32 bits each when settled; while terms come, each may be above or below that. */
        private final long[] limbs;

        Exact() {
            limbs = new long[LIMBS];
        }

        void begin() {
            hasNan = false;
            zeroTimesInfinite = false;
            plusInfinite = false;
            minusInfinite = false;
            plusSeen = false;
            minusSeen = false;
            nonzero = 0;
            negative = false;
            whole = 0;
            power = 0;
            more = false;
        }

        void addValue(Format k, int a, boolean otherSign) {
            int sort = k.sortOf(a);
            boolean below = k.isNegative(a) != otherSign;
            if (sort == NOT_A_NUMBER) {
                hasNan = true;
            } else if (sort == INFINITE) {
                noteInfinite(below);
            } else {
                addFinite(below, k.wholeOf(a), k.powerOf(a));
            }
        }

        void addProduct(Format k, int a, Format m, int b) {
            int first = k.sortOf(a);
            int second = m.sortOf(b);
            boolean below = k.isNegative(a) != m.isNegative(b);
            if (first == NOT_A_NUMBER || second == NOT_A_NUMBER) {
                hasNan = true;
            } else if (first != INFINITE && second != INFINITE) {
                addFinite(below, k.wholeOf(a) * m.wholeOf(b), k.powerOf(a) + m.powerOf(b));
            } else if (first == ZERO || second == ZERO) {
                zeroTimesInfinite = true;
            } else {
                noteInfinite(below);
            }
        }

        private void noteInfinite(boolean below) {
            if (below) {
                minusInfinite = true;
            } else {
                plusInfinite = true;
            }
        }

        /** A first term that is not 0 is held as it is: most totals have one alone, and need no limbs. */
        private void addFinite(boolean below, long termWhole, int termPower) {
            if (below) {
                minusSeen = true;
            } else {
                plusSeen = true;
            }
            if (termWhole == 0) {
                return;
            }
            nonzero++;
            if (nonzero == 1) {
                negative = below;
                whole = termWhole;
                power = termPower;
                return;
            }
            if (nonzero == 2) {
                Arrays.fill(limbs, 0);
                spread(negative, whole, power);
            }
            spread(below, termWhole, termPower);
        }

        private void spread(boolean below, long termWhole, int termPower) {
            int place = termPower - LOWEST;
            int limb = place >> 5;
            // never so with the widths that FORMATS can have
            if (limb < 0 || limb + 2 >= LIMBS) {
                return;
            }
            int within = place & 31;
            long low = (termWhole & LOW_HALF) << within;
            long high = (termWhole >>> 32 << within) + (low >>> 32);
            long sign = below ? -1 : 1;
            limbs[limb] += sign * (low & LOW_HALF);
            limbs[limb + 1] += sign * (high & LOW_HALF);
            limbs[limb + 2] += sign * (high >>> 32);
        }

        void settle() {
            if (nonzero < 2) {
                return;
            }
            negative = carry(1) < 0;
            if (negative) {
                carry(-1);
            }
            int top = LIMBS - 1;
            while (top > 0 && limbs[top] == 0) {
                top--;
            }
            take(top);
        }

        /** Brings each limb, times the sign, to 32 bits; what is left above the last is below 0 if the total is. */
        private long carry(int sign) {
            long over = 0;
            for (int i = 0; i < LIMBS; i++) {
                long limb = sign * limbs[i] + over;
                limbs[i] = limb & LOW_HALF;
                over = limb >> 32;
            }
            return over;
        }

        private void take(int top) {
            int length = 32 * top + 64 - Long.numberOfLeadingZeros(limbs[top]);
            int from = Math.max(length - TAKEN, 0);
            int lowest = from >> 5;
            whole = limbs[lowest] >>> (from & 31);
            for (int i = lowest + 1; i <= top; i++) {
                whole += limbs[i] << (32 * i - from);
            }
            power = LOWEST + from;
            more = (limbs[lowest] & (1L << (from & 31)) - 1) != 0;
            for (int i = 0; i < lowest; i++) {
                more = more || limbs[i] != 0;
            }
        }

        boolean zeroIsNegative(int way) {
            if (nonzero == 0 && !(plusSeen && minusSeen)) {
                return minusSeen;
            }
            return way == DOWNWARD;
        }

        /** Where the total lies, if no term is NAN: -1 below 0, 1 above, 0 if infinite terms meet or it is 0. */
        int side() {
            if (plusInfinite || minusInfinite) {
                return (plusInfinite ? 1 : 0) - (minusInfinite ? 1 : 0);
            }
            settle();
            if (whole == 0) {
                return 0;
            }
            return negative ? -1 : 1;
        }
    }

    /** Brings exact numbers into a FORMAT, raises FLAGS and draws numbers. */
    private static final class Rounder {
        private static final int INVALID = 1, OVERFLOW = 2, UNDERFLOW = 4, INEXACT = 8;
        private static final long FACTOR = 48271, MODULUS = 2147483647;
        /** As many bits as a drawn number has. */
        private static final int DRAWN_BITS = 16;

        int raised;
        long state;

        Rounder() {
            raised = 0;
            state = 1;
        }

        /** A PATTERN of FORMAT k, times 2 to the power up, ROUNDED into FORMAT m. */
        int turned(Format k, int a, int up, Format m, int way) {
            int sort = k.sortOf(a);
            boolean negative = k.isNegative(a);
            switch (sort) {
                case NOT_A_NUMBER: return m.theNan;
                case INFINITE: return infinite(negative, m);
                case ZERO: return m.signed(negative, 0);
                default: return finite(negative, k.wholeOf(a), k.powerOf(a) + up, false, m, way);
            }
        }

        int rounded(Exact total, Format m, int way) {
            if (total.hasNan) {
                return m.theNan;
            }
            if (total.zeroTimesInfinite || total.plusInfinite && total.minusInfinite) {
                raised |= INVALID;
                return m.theNan;
            }
            if (total.plusInfinite || total.minusInfinite) {
                return infinite(total.minusInfinite, m);
            }
            total.settle();
            if (total.whole == 0) {
                return m.signed(total.zeroIsNegative(way), 0);
            }
            return finite(total.negative, total.whole, total.power, total.more, m, way);
        }

        private int infinite(boolean negative, Format m) {
            switch (m.kind) {
                case 0: return m.signed(negative, m.limit);
                case 1: return m.signed(negative, m.limit - 1);
                default: return m.theNan;
            }
        }

        /** If there is more than the whole number, that has bits enough for the FORMAT and a drawn number. */
        private int finite(boolean negative, long whole, int power, boolean more, Format m, int way) {
            int top = power + 63 - Long.numberOfLeadingZeros(whole);
            int last = Math.max(top, m.leastTop) - m.fracBits;
            int dropped = last - power;
            long stays = shifted(whole, dropped);
            long rest = dropped > 0 ? whole - shifted(stays, -dropped) : 0;
            // the bit above FRAC in what stays counts EXP up by one, and so does a carry out of FRAC
            long unsigned = ((long) (last - m.leastPower) << m.fracBits) + stays;
            if (rest != 0 || more) {
                raised |= top < m.leastTop ? INEXACT | UNDERFLOW : INEXACT;
                boolean far = way == DRAWN ? draw() < shifted(rest, dropped - DRAWN_BITS)
                    : goesFar(negative, (stays & 1) == 1, againstHalf(rest, dropped, more), way);
                unsigned += far ? 1 : 0;
            }
            if (unsigned >= m.limit) {
                raised |= OVERFLOW | INEXACT;
                boolean stops = m.kind == 0 && stopsShort(negative, way);
                return stops ? m.signed(negative, m.limit - 1) : infinite(negative, m);
            }
            return m.signed(negative, (int) unsigned);
        }

        /** The whole part of a number, which is less than 2 to the power 62, divided by 2 to the power down. */
        private static long shifted(long number, int down) {
            if (down > 62) {
                return 0;
            }
            return down >= 0 ? number >>> down : number << -down;
        }

        /** Below, at or above 0 as the rest is less than, just or more than half of the way to the farther value. */
        private static int againstHalf(long rest, int dropped, boolean more) {
            if (dropped > 62) {
                return -1;
            }
            int side = Long.compare(rest, 1L << (dropped - 1));
            return side == 0 && more ? 1 : side;
        }

        private static boolean goesFar(boolean negative, boolean odd, int half, int way) {
            switch (way) {
                case TO_EVEN: return half > 0 || half == 0 && odd;
                case TO_FAR: return half >= 0;
                case UPWARD: return !negative;
                case DOWNWARD: return negative;
                default: return false;
            }
        }

        /** Whether what OVERFLOWS goes no farther than the greatest value, as the WAY leads back to it. */
        private static boolean stopsShort(boolean negative, int way) {
            return way == TO_ZERO || way == UPWARD && negative || way == DOWNWARD && !negative;
        }

        private long draw() {
            state = state * FACTOR % MODULUS;
            return state >> 4 & 65535;
        }
    }
}
