import java.util.ArrayList;
import java.util.Arrays;
import java.util.List;
import java.util.TreeMap;
import java.util.TreeSet;

/**
 * The document, plainly: what the class works out by shorter ways is worked out here by
 * definition, orders one by one, corners and LEAN weights by every choice of sets.
 */
final class Model {
    private static final long NO = -4611686018427387904L;

    /** A fraction in lowest terms. */
    static final class Q implements Comparable<Q> {
        final long above;
        final long below;

        Q(long above, long below) {
            long a = Math.abs(above);
            long b = Math.abs(below);
            while (b != 0) {
                long rest = a % b;
                a = b;
                b = rest;
            }
            long sign = below < 0 ? -1 : 1;
            this.above = sign * above / a;
            this.below = sign * below / a;
        }

        static Q of(long whole) {
            return new Q(whole, 1);
        }

        Q plus(Q o) {
            return new Q(above * o.below + o.above * below, below * o.below);
        }

        Q minus(Q o) {
            return new Q(above * o.below - o.above * below, below * o.below);
        }

        Q times(Q o) {
            return new Q(above * o.above, below * o.below);
        }

        Q by(Q o) {
            return new Q(above * o.below, below * o.above);
        }

        boolean isZero() {
            return above == 0;
        }

        @Override
        public int compareTo(Q o) {
            return Long.compare(above * o.below, o.above * below);
        }

        long told(int what) {
            return what == 0 ? above : what == 1 ? below : NO;
        }
    }

    /** The one solution of rows (the last item right of the sign of equality), or null. */
    private static Q[] solve(Q[][] rows, int unknowns) {
        int done = 0;
        for (int c = 0; c < unknowns; c++) {
            int pivot = done;
            while (pivot < rows.length && rows[pivot][c].isZero()) {
                pivot++;
            }
            if (pivot == rows.length) {
                return null;
            }
            Q[] swap = rows[pivot];
            rows[pivot] = rows[done];
            rows[done] = swap;
            for (int r = 0; r < rows.length; r++) {
                if (r != done && !rows[r][c].isZero()) {
                    Q times = rows[r][c].by(rows[done][c]);
                    for (int k = 0; k <= unknowns; k++) {
                        rows[r][k] = rows[r][k].minus(times.times(rows[done][k]));
                    }
                }
            }
            done++;
        }
        for (int r = done; r < rows.length; r++) {
            if (!rows[r][unknowns].isZero()) {
                return null;
            }
        }
        Q[] found = new Q[unknowns];
        for (int c = 0; c < unknowns; c++) {
            found[c] = rows[c][unknowns].by(rows[c][c]);
        }
        return found;
    }

    private static int bit(int set, int i) {
        return set >> i & 1;
    }

    /** All choices of so many of the sets 1 .. ALL - 1, as bits SET - 1. */
    private static List<Integer> choices(int all, int many) {
        List<Integer> found = new ArrayList<>();
        for (int bits = 0; bits < 1 << (all - 1); bits++) {
            if (Integer.bitCount(bits) == many) {
                found.add(bits);
            }
        }
        return found;
    }

    private static int[] setsOf(int bits) {
        int[] sets = new int[Integer.bitCount(bits)];
        int k = 0;
        for (int set = 1; set < 16; set++) {
            if (bit(bits, set - 1) == 1) {
                sets[k++] = set;
            }
        }
        return sets;
    }

    static final class Lean {
        Q least;
        int bits;
        Q[] weights;
    }

    private static final TreeMap<Integer, List<Lean>> LEAN = new TreeMap<>();

    /** All LEAN weights of n partners in the order of their bits. */
    private static List<Lean> leanOf(int n) {
        if (LEAN.containsKey(n)) {
            return LEAN.get(n);
        }
        int all = (1 << n) - 1;
        TreeMap<Integer, Lean> found = new TreeMap<>();
        for (int many = 1; many <= n; many++) {
            for (int bits : choices(all, many)) {
                int[] sets = setsOf(bits);
                Q[][] rows = new Q[n][many + 1];
                for (int i = 0; i < n; i++) {
                    for (int k = 0; k < many; k++) {
                        rows[i][k] = Q.of(bit(sets[k], i));
                    }
                    rows[i][many] = Q.of(1);
                }
                Q[] weights = solve(rows, many);
                if (weights == null || Arrays.stream(weights).anyMatch(w -> w.above <= 0)) {
                    continue;
                }
                Lean lean = new Lean();
                lean.bits = bits;
                lean.weights = new Q[all];
                Arrays.fill(lean.weights, Q.of(0));
                for (int k = 0; k < many; k++) {
                    lean.weights[sets[k]] = weights[k];
                }
                found.put(bits, lean);
            }
        }
        LEAN.put(n, new ArrayList<>(found.values()));
        return LEAN.get(n);
    }

    static final class Venture {
        final int kind;
        final int n;
        final Q[] worths;

        Venture(int kind, int n) {
            this.kind = kind;
            this.n = n;
            worths = new Q[1 << n];
            Arrays.fill(worths, Q.of(0));
        }

        int all() {
            return (1 << n) - 1;
        }

        Q adds(int i, int set) {
            return worths[set | 1 << i].minus(worths[set]);
        }

        Venture lessened(Q by) {
            Venture made = new Venture(kind, n);
            for (int set = 1; set <= all(); set++) {
                made.worths[set] = set == all() ? worths[set] : worths[set].minus(by);
            }
            return made;
        }

        List<int[]> orders() {
            List<int[]> found = new ArrayList<>();
            order(new int[n], 0, 0, found);
            return found;
        }

        private void order(int[] sofar, int many, int used, List<int[]> found) {
            if (many == n) {
                found.add(sofar.clone());
                return;
            }
            for (int i = 0; i < n; i++) {
                if (bit(used, i) == 0) {
                    sofar[many] = i;
                    order(sofar, many + 1, used | 1 << i, found);
                }
            }
        }

        Q[] part(int way) {
            Q[] found = new Q[n];
            Arrays.fill(found, Q.of(0));
            if (way == 0) {
                List<int[]> orders = orders();
                for (int[] order : orders) {
                    int ahead = 0;
                    for (int i : order) {
                        found[i] = found[i].plus(adds(i, ahead));
                        ahead |= 1 << i;
                    }
                }
                for (int i = 0; i < n; i++) {
                    found[i] = found[i].by(Q.of(orders.size()));
                }
                return found;
            }
            Q own = Q.of(0);
            for (int i = 0; i < n; i++) {
                own = own.plus(worths[1 << i]);
            }
            for (int i = 0; i < n; i++) {
                found[i] = worths[1 << i].plus(worths[all()].minus(own).by(Q.of(n)));
            }
            return found;
        }

        Q lacks(Q[] part, int set) {
            Q left = worths[set];
            for (int i = 0; i < n; i++) {
                left = bit(set, i) == 1 ? left.minus(part[i]) : left;
            }
            return left;
        }

        TreeSet<Q[]> corners() {
            TreeSet<Q[]> found = new TreeSet<>(Arrays::compare);
            for (int bits : choices(all(), n - 1)) {
                int[] sets = setsOf(bits);
                Q[][] rows = new Q[n][n + 1];
                for (int r = 0; r < n; r++) {
                    int set = r == n - 1 ? all() : sets[r];
                    for (int i = 0; i < n; i++) {
                        rows[r][i] = Q.of(bit(set, i));
                    }
                    rows[r][n] = worths[set];
                }
                Q[] part = solve(rows, n);
                if (part != null && isCore(part)) {
                    found.add(part);
                }
            }
            return found;
        }

        private boolean isCore(Q[] part) {
            for (int set = 1; set < all(); set++) {
                if (lacks(part, set).above > 0) {
                    return false;
                }
            }
            return true;
        }

        Lean lean() {
            Lean best = null;
            for (Lean lean : leanOf(n)) {
                Q top = Q.of(0).minus(worths[all()]);
                Q sum = Q.of(0);
                for (int set = 1; set < all(); set++) {
                    top = top.plus(lean.weights[set].times(worths[set]));
                    sum = sum.plus(lean.weights[set]);
                }
                Q value = top.by(sum);
                if (best == null || value.compareTo(best.least) > 0) {
                    Lean next = new Lean();
                    next.bits = lean.bits;
                    next.weights = lean.weights;
                    next.least = value;
                    best = next;
                }
            }
            return best;
        }

        int where() {
            for (int i = 0; i < n; i++) {
                for (int less = 0; less <= all(); less++) {
                    for (int more = 0; more <= all(); more++) {
                        boolean holds = (more | less) == more && more != less;
                        if (holds && bit(more, i) == 0
                                && adds(i, more).compareTo(adds(i, less)) < 0) {
                            return 256 * i + 16 * less + more;
                        }
                    }
                }
            }
            return -1;
        }

        List<Long> proof() {
            List<Long> found = new ArrayList<>();
            for (int set = 1; set <= all(); set++) {
                found.add(worths[set].above);
            }
            for (Q q : part(0)) {
                found.add(q.above);
                found.add(q.below);
            }
            if (n > 1) {
                found.add(lean().least.above);
                found.add(lean().least.below);
            }
            return found;
        }
    }

    final List<Venture> ventures = new ArrayList<>();
    private List<Long> rows = new ArrayList<>();
    private final List<Integer> trace = new ArrayList<>();
    private final long[][] sheets = new long[4][];
    private final int[] sorts = new int[4];

    private Venture at(int i) {
        return i >= 0 && i < ventures.size() ? ventures.get(i) : null;
    }

    private static boolean within(long x, long least, long most) {
        return least <= x && x <= most;
    }

    private int enter(Venture v) {
        if (ventures.size() == 10) {
            return -4;
        }
        ventures.add(v);
        return ventures.size() - 1;
    }

    int venture(int n) {
        return within(n, 1, 4) ? enter(new Venture(0, n)) : -2;
    }

    int set(int venture, int set, int v) {
        Venture it = at(venture);
        if (it == null || !within(set, 1, it.all()) || !within(v, -100, 100)) {
            return -2;
        }
        if (it.kind != 0) {
            return -3;
        }
        it.worths[set] = Q.of(v);
        return 1;
    }

    int votes(int n, int weights, int quota) {
        if (!within(n, 1, 4) || !within(quota, 1, 80)
                || !within(weights, 0, (long) Math.pow(21, n) - 1)) {
            return -2;
        }
        Venture it = new Venture(1, n);
        for (int set = 1; set <= it.all(); set++) {
            int sum = 0;
            for (int i = 0; i < n; i++) {
                sum += bit(set, i) * (weights / (int) Math.pow(21, i) % 21);
            }
            it.worths[set] = Q.of(sum >= quota ? 1 : 0);
        }
        return enter(it);
    }

    int runway(int n, int needs) {
        if (!within(n, 1, 4) || !within(needs, 0, (long) Math.pow(51, n) - 1)) {
            return -2;
        }
        Venture it = new Venture(2, n);
        for (int set = 1; set <= it.all(); set++) {
            int most = 0;
            for (int i = 0; i < n; i++) {
                int need = needs / (int) Math.pow(51, i) % 51;
                most = bit(set, i) == 1 && need > most ? need : most;
            }
            it.worths[set] = Q.of(-most);
        }
        return enter(it);
    }

    int gloves(int n, int left) {
        if (!within(n, 1, 4) || !within(left, 0, (1 << n) - 1)) {
            return -2;
        }
        Venture it = new Venture(3, n);
        for (int set = 1; set <= it.all(); set++) {
            int lefts = 0;
            int rights = 0;
            for (int i = 0; i < n; i++) {
                lefts += bit(set, i) * bit(left, i);
                rights += bit(set, i) * (1 - bit(left, i));
            }
            it.worths[set] = Q.of(Math.min(lefts, rights));
        }
        return enter(it);
    }

    int sum(int first, int second, int p, int q) {
        Venture a = at(first);
        Venture b = at(second);
        if (a == null || b == null || !within(p, -3, 3) || !within(q, -3, 3)) {
            return -2;
        }
        if (a.n != b.n) {
            return -3;
        }
        Venture it = new Venture(4, a.n);
        for (int set = 1; set <= it.all(); set++) {
            it.worths[set] = a.worths[set].times(Q.of(p)).plus(b.worths[set].times(Q.of(q)));
            if (!within(it.worths[set].above, -1000, 1000)) {
                return -4;
            }
        }
        return enter(it);
    }

    int drop(int venture, int partner) {
        Venture it = at(venture);
        if (it == null || !within(partner, 0, it.n - 1)) {
            return -2;
        }
        if (it.n == 1) {
            return -3;
        }
        Venture made = new Venture(4, it.n - 1);
        for (int set = 1; set <= made.all(); set++) {
            int old = 0;
            for (int i = 0; i < made.n; i++) {
                old |= bit(set, i) << (i < partner ? i : i + 1);
            }
            made.worths[set] = it.worths[old];
        }
        return enter(made);
    }

    int join(int venture, int a, int b) {
        Venture it = at(venture);
        if (it == null || !within(a, 0, it.n - 1) || !within(b, 0, it.n - 1) || a >= b) {
            return -2;
        }
        Venture made = new Venture(4, it.n - 1);
        for (int old = 1; old <= it.all(); old++) {
            if (bit(old, a) == bit(old, b)) {
                int set = 0;
                for (int i = 0; i < it.n; i++) {
                    set |= bit(old, i) << (i == b ? a : i > b ? i - 1 : i);
                }
                made.worths[set] = it.worths[old];
            }
        }
        return enter(made);
    }

    int other(int venture) {
        Venture it = at(venture);
        if (it == null) {
            return -2;
        }
        Venture made = new Venture(4, it.n);
        for (int set = 1; set <= it.all(); set++) {
            made.worths[set] = it.worths[it.all()].minus(it.worths[it.all() - set]);
        }
        return enter(made);
    }

    int close() {
        if (ventures.isEmpty()) {
            return -3;
        }
        ventures.remove(ventures.size() - 1);
        return ventures.size();
    }

    int told(int venture, int what) {
        Venture it = at(venture);
        if (it == null || !within(what, 0, 6)) {
            return -2;
        }
        int dummies = 0;
        int less = 0;
        for (int i = 0; i < it.n; i++) {
            boolean dummy = true;
            for (int set = 0; set <= it.all(); set++) {
                dummy &= bit(set, i) == 1
                        || it.adds(i, set).compareTo(it.worths[1 << i]) == 0;
            }
            dummies += dummy ? 1 << i : 0;
            less += it.adds(i, it.all() - (1 << i)).above < 0 ? 1 : 0;
        }
        switch (what) {
            case 0: return it.kind;
            case 1: return it.n;
            case 2: return it.n == 1 || it.lean().least.above <= 0 ? 1 : 0;
            case 3: return it.corners().size();
            case 4: return it.where() == -1 ? 1 : 0;
            case 5: return dummies;
            default: return less;
        }
    }

    long worth(int venture, int set) {
        Venture it = at(venture);
        return it == null || !within(set, 0, it.all()) ? NO : it.worths[set].above;
    }

    long adds(int venture, int partner, int set) {
        Venture it = at(venture);
        if (it == null || !within(partner, 0, it.n - 1) || !within(set, 0, it.all())
                || bit(set, partner) == 1) {
            return NO;
        }
        return it.adds(partner, set).above;
    }

    long part(int venture, int way, int partner, int what) {
        Venture it = at(venture);
        if (it == null || !within(way, 0, 1) || !within(partner, 0, it.n - 1)) {
            return NO;
        }
        return it.part(way)[partner].told(what);
    }

    long lacks(int venture, int way, int set, int what) {
        Venture it = at(venture);
        if (it == null || !within(way, 0, 1) || !within(set, 1, it.all() - 1)) {
            return NO;
        }
        return it.lacks(it.part(way), set).told(what);
    }

    int worst(int venture, int way) {
        Venture it = at(venture);
        if (it == null || !within(way, 0, 1)) {
            return -2;
        }
        Q[] part = it.part(way);
        int found = -1;
        for (int set = it.all() - 1; set >= 1; set--) {
            if (found < 0 || it.lacks(part, set).compareTo(it.lacks(part, found)) >= 0) {
                found = set;
            }
        }
        return found;
    }

    long corner(int venture, int i, int partner, int what) {
        Venture it = at(venture);
        if (it == null || !within(partner, 0, it.n - 1)) {
            return NO;
        }
        List<Q[]> corners = new ArrayList<>(it.corners());
        return within(i, 0, corners.size() - 1) ? corners.get(i)[partner].told(what) : NO;
    }

    long spread(int venture, int partner, int way, int what) {
        Venture it = at(venture);
        if (it == null || !within(partner, 0, it.n - 1) || !within(way, 0, 1)) {
            return NO;
        }
        TreeSet<Q> gets = new TreeSet<>();
        for (Q[] corner : it.corners()) {
            gets.add(corner[partner]);
        }
        return gets.isEmpty() ? NO : (way == 0 ? gets.first() : gets.last()).told(what);
    }

    long least(int venture, int what) {
        Venture it = at(venture);
        return it == null || it.n == 1 ? NO : it.lean().least.told(what);
    }

    long bar(int venture, int set, int what) {
        Venture it = at(venture);
        if (it == null || !within(set, 1, it.all() - 1)) {
            return NO;
        }
        return it.lean().weights[set].told(what);
    }

    int where(int venture) {
        return at(venture) == null ? -2 : at(venture).where();
    }

    int like(int venture, int a, int b) {
        Venture it = at(venture);
        if (it == null || !within(a, 0, it.n - 1) || !within(b, 0, it.n - 1) || a == b) {
            return -2;
        }
        for (int set = 0; set <= it.all(); set++) {
            if (bit(set, a) + bit(set, b) == 0
                    && it.adds(a, set).compareTo(it.adds(b, set)) != 0) {
                return 0;
            }
        }
        return 1;
    }

    int power(int venture, int partner, int way) {
        Venture it = at(venture);
        if (it == null || !within(partner, 0, it.n - 1) || !within(way, 0, 1)) {
            return -2;
        }
        if (it.kind != 1) {
            return -3;
        }
        int found = 0;
        if (way == 0) {
            for (int set = 0; set <= it.all(); set++) {
                found += bit(set, partner) == 0 ? (int) it.adds(partner, set).above : 0;
            }
            return found;
        }
        for (int[] order : it.orders()) {
            int ahead = 0;
            for (int i = 0; order[i] != partner; i++) {
                ahead |= 1 << order[i];
            }
            found += (int) it.adds(partner, ahead).above;
        }
        return found;
    }

    int write(int venture) {
        if (at(venture) == null) {
            return -2;
        }
        rows = at(venture).proof();
        return rows.size();
    }

    long row(int i) {
        return within(i, 0, rows.size() - 1) ? rows.get(i) : NO;
    }

    int forge(int i, long v) {
        if (!within(i, 0, rows.size() - 1)) {
            return -2;
        }
        rows.set(i, v);
        return 1;
    }

    int check(int venture) {
        if (at(venture) == null) {
            return -2;
        }
        List<Long> due = at(venture).proof();
        int both = Math.min(due.size(), rows.size());
        for (int i = 0; i < both; i++) {
            if (due.get(i).longValue() != rows.get(i).longValue()) {
                return i;
            }
        }
        return due.size() == rows.size() ? -1 : both;
    }

    int act(int venture, int act, int x) {
        trace.clear();
        Venture it = at(venture);
        if (it == null || !within(act, 0, 2)) {
            return 0;
        }
        return run(it, venture, act, x, false);
    }

    /** An act (0 gives, 1 lacks, 2 shares) by the body of the kind, or above that of TOLD. */
    private int run(Venture it, int m, int act, int x, boolean above) {
        int body = (above ? 0 : it.kind) * 10 + act;
        switch (body) {
            case 10:
                trace.add(20);
                return run(it, m, 0, x, true) * 2;
            case 12:
                trace.add(21);
                return run(it, m, 2, x, true) - 1;
            case 21:
                trace.add(30);
                return run(it, m, 1, x, true) + m;
            case 32:
                trace.add(40);
                return run(it, m, 0, x, false) - run(it, m, 2, x + 1, true);
            case 40:
                trace.add(50);
                return run(it, m, 0, x - it.n, true);
            case 41:
                trace.add(51);
                return run(it, m, 1, x, true) ^ run(it, m, 0, x, true);
            default:
                trace.add(10 + act);
                return act == 0 ? x + (int) it.worths[it.all()].above
                        : act == 1 ? run(it, m, 0, x, false) * it.n
                        : run(it, m, 1, x, false) ^ run(it, m, 0, x + m, false);
        }
    }

    int trace(int i) {
        return within(i, 0, Math.min(40, trace.size()) - 1) ? trace.get(i) : -1;
    }

    int count(int what) {
        return what == 0 ? ventures.size() : what == 1 ? rows.size()
                : what == 2 ? trace.size() : -2;
    }

    int sheet(int sheet, int sort, int n) {
        if (!within(sheet, 0, 3) || !within(sort, -1, 2)) {
            return -2;
        }
        if (sort >= 0 && n > 40) {
            return -2;
        }
        if (sort >= 0 && n < 0) {
            return -14;
        }
        sheets[sheet] = sort < 0 ? null : new long[n];
        sorts[sheet] = sort;
        return 1;
    }

    int cell(int sheet, int i, int v) {
        if (!within(sheet, 0, 3)) {
            return -2;
        }
        if (sheets[sheet] == null) {
            return -11;
        }
        if (!within(i, 0, sheets[sheet].length - 1)) {
            return -12;
        }
        sheets[sheet][i] = v;
        if (sorts[sheet] == 0) {
            int low = v & 255;
            sheets[sheet][i] = low > 127 ? low - 256 : low;
        }
        return 1;
    }

    int lay(int venture, int sheet, int sort, int i) {
        Venture it = at(venture);
        if (it == null || !within(sheet, 0, 3) || !within(sort, 0, 2)) {
            return -2;
        }
        if (it.kind != 0) {
            return -3;
        }
        if (sheets[sheet] == null) {
            return -11;
        }
        if (sorts[sheet] != sort) {
            return -13;
        }
        if (i < 0 || (long) i + it.all() > sheets[sheet].length) {
            return -12;
        }
        for (int k = 0; k < it.all(); k++) {
            if (!within(sheets[sheet][i + k], -100, 100)) {
                return -2;
            }
        }
        for (int k = 0; k < it.all(); k++) {
            it.worths[k + 1] = Q.of(sheets[sheet][i + k]);
        }
        return 1;
    }

    int copy(int sheet, int i, int other, int j, int n) {
        if (!within(sheet, 0, 3) || !within(other, 0, 3)) {
            return -2;
        }
        long[] from = sheets[sheet];
        long[] to = sheets[other];
        if (from == null || to == null) {
            return -11;
        }
        if (sorts[sheet] != sorts[other]) {
            return -13;
        }
        if (n < 0 || i < 0 || j < 0 || (long) i + n > from.length || (long) j + n > to.length) {
            return -12;
        }
        long[] were = from.clone();
        for (int k = 0; k < n; k++) {
            to[j + k] = were[i + k];
        }
        return n;
    }

    int taken(int venture, int k) {
        if (!within(k, 0, 4)) {
            return -2;
        }
        Venture it = at(venture);
        return it == null ? -11 : k == 0 || it.kind == k ? it.n : -13;
    }
}
