import java.math.BigInteger;
import java.util.ArrayList;
import java.util.List;

/**
 * The document once more, by other means than the class: big whole numbers counted in parts of 2 to the
 * power -800, and a search through a FORMAT's PATTERNS for the two values next to a number.
 */
final class Model {
    static final int BAD = -2, FULL = -3, APART = 1000000;
    private static final int UNIT = 800;

    /** E, F and KIND of each FORMAT. */
    private final int[][] forms = {{5, 10, 0}, {8, 7, 0}, {8, 23, 0}, {4, 3, 1}};
    private final List<List<Integer>> rows = List.of(new ArrayList<>(), new ArrayList<>());
    private final int[] rowForm = {0, 2};
    private int flags = 0;
    private long state = 1;
    private int s = 0;
    private int streak = 0;
    private int g = 3;

    /** A value or a product: NAN, infinite, or whole times 2 to the power. */
    private record Term(boolean nan, boolean infinite, boolean invalid, boolean below, BigInteger whole, int power) {
        boolean zero() {
            return !nan && !infinite && !invalid && whole.signum() == 0;
        }

        BigInteger counted() {
            BigInteger size = whole.shiftLeft(power + UNIT);
            return below ? size.negate() : size;
        }

        Term over() {
            return new Term(nan, infinite, invalid, !below, whole, power);
        }

        Term scaled(int up) {
            return new Term(nan, infinite, invalid, below, whole, power + up);
        }

        Term times(Term o) {
            boolean eitherNan = nan || o.nan;
            boolean bad = !eitherNan && (infinite && o.zero() || zero() && o.infinite);
            boolean inf = !eitherNan && !bad && (infinite || o.infinite);
            return new Term(eitherNan, inf, bad, below != o.below, whole.multiply(o.whole), power + o.power);
        }
    }

    private boolean noForm(int k) {
        return k < 0 || k > 3;
    }

    private boolean noWay(int way) {
        return way < 0 || way > 5;
    }

    private int e(int k) {
        return forms[k][0];
    }

    private int f(int k) {
        return forms[k][1];
    }

    private int bias(int k) {
        return (1 << (e(k) - 1)) - 1;
    }

    private boolean noPattern(int k, int a) {
        return noForm(k) || (Integer.toUnsignedLong(a) >> (e(k) + f(k) + 1)) != 0;
    }

    private long sizeBits(int k, int a) {
        return Integer.toUnsignedLong(a) % (1L << (e(k) + f(k)));
    }

    private boolean below(int k, int a) {
        return Integer.toUnsignedLong(a) >= 1L << (e(k) + f(k));
    }

    /** The unsigned pattern of what is infinite, or of NAN. */
    private long limit(int k) {
        long exps = ((1L << e(k)) - 1) << f(k);
        return forms[k][2] == 0 ? exps : exps | ((1L << f(k)) - 1);
    }

    private int nan(int k) {
        long exps = ((1L << e(k)) - 1) << f(k);
        return (int) (forms[k][2] == 0 ? exps | 1L << (f(k) - 1) : limit(k));
    }

    private int sort(int k, int a) {
        long size = sizeBits(k, a);
        if (size > limit(k) || size == limit(k) && forms[k][2] != 0) {
            return 4;
        }
        if (size == limit(k)) {
            return 3;
        }
        return size == 0 ? 0 : size < 1L << f(k) ? 1 : 2;
    }

    private BigInteger whole(int k, long size) {
        long frac = size % (1L << f(k));
        return BigInteger.valueOf(size >> f(k) == 0 ? frac : frac + (1L << f(k)));
    }

    private int power(int k, long size) {
        long exp = size >> f(k);
        return (int) (exp == 0 ? 1 - bias(k) - f(k) : exp - bias(k) - f(k));
    }

    private BigInteger counted(int k, long size) {
        return whole(k, size).shiftLeft(power(k, size) + UNIT);
    }

    private Term term(int k, int a) {
        int sort = sort(k, a);
        long size = sizeBits(k, a);
        return new Term(sort == 4, sort == 3, false, below(k, a), whole(k, size), power(k, size));
    }

    private int signed(int k, boolean below, long size) {
        return (int) (below ? size + (1L << (e(k) + f(k))) : size);
    }

    private int infinite(int k, boolean below) {
        if (forms[k][2] == 2) {
            return nan(k);
        }
        return signed(k, below, forms[k][2] == 0 ? limit(k) : limit(k) - 1);
    }

    private int draw() {
        state = BigInteger.valueOf(state).multiply(BigInteger.valueOf(48271))
            .mod(BigInteger.valueOf(2147483647)).longValue();
        return (int) (state / 16 % 65536);
    }

    private int round(boolean below, BigInteger size, int k, int way) {
        long low = 0;
        long high = 3000L << f(k);
        while (high - low > 1) {
            long middle = (low + high) / 2;
            if (counted(k, middle).compareTo(size) <= 0) {
                low = middle;
            } else {
                high = middle;
            }
        }
        BigInteger near = counted(k, low);
        long pattern = low;
        if (!near.equals(size)) {
            flags |= 8;
            if (size.compareTo(BigInteger.ONE.shiftLeft(1 - bias(k) + UNIT)) < 0) {
                flags |= 4;
            }
            BigInteger in = size.subtract(near);
            BigInteger out = counted(k, low + 1).subtract(size);
            if (far(below, in, out, low, way)) {
                pattern = low + 1;
            }
        }
        if (pattern < limit(k)) {
            return signed(k, below, pattern);
        }
        flags |= 10;
        boolean stays = way == 2 || way == 3 && below || way == 4 && !below;
        return stays && forms[k][2] == 0 ? signed(k, below, limit(k) - 1) : infinite(k, below);
    }

    private boolean far(boolean below, BigInteger in, BigInteger out, long low, int way) {
        int nearer = in.compareTo(out);
        switch (way) {
            case 0: return nearer > 0 || nearer == 0 && low % 2 == 1;
            case 1: return nearer >= 0;
            case 2: return false;
            case 3: return !below;
            case 4: return below;
            default: return draw() < in.shiftLeft(16).divide(in.add(out)).intValueExact();
        }
    }

    private int total(int k, int way, Term... terms) {
        return total(k, way, List.of(terms));
    }

    private int total(int k, int way, List<Term> terms) {
        if (terms.stream().anyMatch(Term::nan)) {
            return nan(k);
        }
        boolean up = terms.stream().anyMatch(t -> t.infinite() && !t.below());
        boolean down = terms.stream().anyMatch(t -> t.infinite() && t.below());
        if (up && down || terms.stream().anyMatch(Term::invalid)) {
            flags |= 1;
            return nan(k);
        }
        if (up || down) {
            return infinite(k, down);
        }
        BigInteger all = terms.stream().map(Term::counted).reduce(BigInteger.ZERO, BigInteger::add);
        if (all.signum() != 0) {
            return round(all.signum() < 0, all.abs(), k, way);
        }
        if (terms.isEmpty()) {
            return 0;
        }
        boolean zeros = terms.stream().allMatch(Term::zero);
        boolean first = terms.get(0).below();
        boolean alike = terms.stream().allMatch(t -> t.below() == first);
        return signed(k, zeros && alike ? first : way == 4, 0);
    }

    int format(int k, int e, int f, int kind) {
        if (noForm(k) || e < 2 || e > 8 || f < 1 || f > 23 || kind < 0 || kind > 2) {
            return BAD;
        }
        for (int r = 0; r < 2; r++) {
            if (rowForm[r] == k && !rows.get(r).isEmpty()) {
                return BAD;
            }
        }
        forms[k] = new int[] {e, f, kind};
        return 1;
    }

    int form(int k, int what) {
        if (noForm(k) || what < 0 || what > 4) {
            return BAD;
        }
        return what < 3 ? forms[k][what] : what == 3 ? (int) limit(k) - 1 : nan(k);
    }

    int part(int k, int a, int what) {
        if (noPattern(k, a) || what < 0 || what > 3) {
            return APART;
        }
        int sort = sort(k, a);
        if (what < 2) {
            return what == 0 ? sort : below(k, a) ? 1 : 0;
        }
        if (sort == 0 || sort > 2) {
            return 0;
        }
        return what == 2 ? whole(k, sizeBits(k, a)).intValueExact() : power(k, sizeBits(k, a));
    }

    private static long bits(int a) {
        return Integer.toUnsignedLong(a);
    }

    long turn(int k, int a, int m, int way) {
        return noPattern(k, a) || noForm(m) || noWay(way) ? BAD : bits(total(m, way, term(k, a)));
    }

    long reckon(int how, int k, int a, int m, int b, int n, int way) {
        if (how < 0 || how > 2 || noPattern(k, a) || noPattern(m, b) || noForm(n) || noWay(way)) {
            return BAD;
        }
        Term first = term(k, a);
        Term second = term(m, b);
        if (how == 2) {
            return bits(total(n, way, first.times(second)));
        }
        return bits(total(n, way, first, how == 1 ? second.over() : second));
    }

    long fused(int k, int a, int b, int n, int c, int way) {
        if (noPattern(k, a) || noPattern(k, b) || noPattern(n, c) || noWay(way)) {
            return BAD;
        }
        return bits(total(n, way, term(k, a).times(term(k, b)), term(n, c)));
    }

    int compare(int k, int a, int m, int b) {
        if (noPattern(k, a) || noPattern(m, b)) {
            return BAD;
        }
        if (sort(k, a) == 4 || sort(m, b) == 4) {
            return 2;
        }
        return place(k, a).compareTo(place(m, b));
    }

    /** A number that stands among the finite values as this one does, infinite ones outermost. */
    private BigInteger place(int k, int a) {
        BigInteger huge = BigInteger.ONE.shiftLeft(4 * UNIT);
        return sort(k, a) == 3 ? (below(k, a) ? huge.negate() : huge) : term(k, a).counted();
    }

    int flags() {
        int told = flags;
        flags = 0;
        return told;
    }

    int seed(int to) {
        if (to < 1 || to > 2147483646) {
            return BAD;
        }
        int was = (int) state;
        state = to;
        return was;
    }

    private boolean noRow(int r) {
        return r != 0 && r != 1;
    }

    int clear(int r, int k) {
        if (noRow(r) || noForm(k)) {
            return BAD;
        }
        int had = rows.get(r).size();
        rows.get(r).clear();
        rowForm[r] = k;
        return had;
    }

    int push(int r, int a) {
        if (noRow(r) || noPattern(rowForm[r], a)) {
            return BAD;
        }
        if (rows.get(r).size() == 32) {
            return FULL;
        }
        rows.get(r).add(a);
        return rows.get(r).size();
    }

    long at(int r, int i) {
        return noRow(r) || i < 0 || i >= rows.get(r).size() ? BAD : bits(rows.get(r).get(i));
    }

    int count(int what) {
        int[] all = {rows.get(0).size(), rows.get(1).size(), rowForm[0], rowForm[1], s, streak, g};
        return what < 0 || what > 6 ? APART : all[what];
    }

    long sum(int r, int how, int n, int way) {
        if (noRow(r) || how < 0 || how > 2 || noForm(n) || noWay(way)) {
            return BAD;
        }
        List<Term> terms = new ArrayList<>();
        for (int a : rows.get(r)) {
            terms.add(term(rowForm[r], a));
        }
        if (how == 2 || terms.isEmpty()) {
            return bits(total(n, way, terms));
        }
        return bits(how == 0 ? left(terms, n, way) : tree(terms, n, way));
    }

    private int left(List<Term> terms, int n, int way) {
        int so = total(n, way, terms.get(0));
        for (Term t : terms.subList(1, terms.size())) {
            so = total(n, way, term(n, so), t);
        }
        return so;
    }

    private int tree(List<Term> terms, int n, int way) {
        List<Integer> level = new ArrayList<>();
        for (Term t : terms) {
            level.add(total(n, way, t));
        }
        while (level.size() > 1) {
            List<Integer> next = new ArrayList<>();
            for (int i = 0; i < level.size(); i += 2) {
                boolean alone = i + 1 == level.size();
                int first = level.get(i);
                next.add(alone ? first : total(n, way, term(n, first), term(n, level.get(i + 1))));
            }
            level = next;
        }
        return level.get(0);
    }

    long dot(int c, int m, int n, int way) {
        if (c < 0 || c > 32 || noForm(m) || noForm(n) || noWay(way)) {
            return BAD;
        }
        List<Term> products = new ArrayList<>();
        for (int i = 0; i < Math.min(rows.get(0).size(), rows.get(1).size()); i++) {
            products.add(term(rowForm[0], rows.get(0).get(i)).times(term(rowForm[1], rows.get(1).get(i))));
        }
        if (c == 0) {
            return bits(total(n, way, products));
        }
        int answer = 0;
        int piece = 0;
        for (int i = 0; i < products.size(); i++) {
            piece = total(m, way, term(m, i % c == 0 ? 0 : piece), products.get(i));
            if (i % c == c - 1 || i == products.size() - 1) {
                answer = total(n, way, term(n, answer), term(m, piece));
            }
        }
        return bits(answer);
    }

    int scale(int k) {
        if (noForm(k)) {
            return APART;
        }
        Integer best = null;
        for (int a : rows.get(0)) {
            int sort = sort(rowForm[0], a);
            if (sort == 1 || sort == 2) {
                int top = top(rowForm[0], sizeBits(rowForm[0], a));
                best = best == null ? top : Math.max(best, top);
            }
        }
        return best == null ? 0 : best - top(k, limit(k) - 1);
    }

    private int top(int k, long size) {
        return whole(k, size).bitLength() - 1 + power(k, size);
    }

    long element(int k, int i) {
        if (noForm(k) || i < 0 || i >= rows.get(0).size()) {
            return BAD;
        }
        return bits(total(k, 0, term(rowForm[0], rows.get(0).get(i)).scaled(-scale(k))));
    }

    int scaler(int newS, int newG) {
        if (newS < -60 || newS > 60 || newG < 1 || newG > 100) {
            return BAD;
        }
        s = newS;
        g = newG;
        streak = 0;
        return 1;
    }

    int step(int r) {
        int form = rowForm[1];
        if (noPattern(form, r)) {
            return BAD;
        }
        for (int x : rows.get(0)) {
            if (sort(rowForm[0], x) >= 3) {
                s = s == -60 ? -60 : s - 1;
                streak = 0;
                return 0;
            }
        }
        for (int i = 0; i < Math.min(rows.get(0).size(), rows.get(1).size()); i++) {
            int slope = total(form, 0, term(rowForm[0], rows.get(0).get(i)).scaled(-s));
            int change = total(form, 0, term(form, r).over().times(term(form, slope)));
            rows.get(1).set(i, total(form, 0, term(form, rows.get(1).get(i)), term(form, change)));
        }
        streak++;
        if (streak == g) {
            s = s == 60 ? 60 : s + 1;
            streak = 0;
        }
        return 1;
    }

    int kept(int k, int m, int way) {
        if (noForm(k) || noForm(m) || way < 0 || way > 4 || e(k) + f(k) > 11) {
            return BAD;
        }
        int was = flags;
        int same = 0;
        for (int a = 0; a < 1 << (e(k) + f(k) + 1); a++) {
            if (sort(k, a) != 4 && total(k, way, term(m, total(m, way, term(k, a)))) == a) {
                same++;
            }
        }
        flags = was;
        return same;
    }
}
