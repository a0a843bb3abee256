/**
 * A desk for joint works: ventures of up to four partners, what sets of them could have alone,
 * how the whole may be shared, and proofs of it. The numbered promises stand in DOC.md.
 */
public final class JointWorks {
    public static final int NONE = -1, BAD = -2, STATE = -3, FULL = -4;
    public static final long NO = -4611686018427387904L;

    private static final int NOTHING = -11, OUTSIDE = -12, OTHER_SORT = -13, BELOW_ZERO = -14;

    private static final int MOST_VENTURES = 10, MOST_PARTNERS = 4, MOST_SETS = 16;
    private static final int MOST_TOLD = 100, MOST_JOINED = 1000, MOST_TIMES = 3;
    private static final int TOLD = 0, VOTES = 1, RUNWAY = 2, GLOVES = 3, JOINED = 4;
    private static final int WEIGHT_BASE = 21, NEED_BASE = 51, MOST_QUOTA = 80;
    private static final int TURNS = 0;
    private static final int GIVES = 0, LACKS = 1, SHARES = 2;
    private static final int ABOVE = 0, BELOW = 1;
    private static final int MOST_KEPT_BODIES = 40;
    private static final int SHEETS = 4, BYTES = 0, LONGS = 2, MISSING = -1, MOST_ITEMS = 40;

    /** WORTHS, TURNS and LEAST of four partners: 15 + 8 + 2. */
    private static final int MOST_ROWS = 25;

    /**
     * A core of four partners lies in three dimensions between at most 14 planes, so it has at
     * most 2 * 14 - 4 corners.
     */
    private static final int MOST_CORNERS = 24;

    /** The sets of partners 0, 1, 2 in bits: what they get together settles the fourth's part. */
    private static final int FREE_SETS = 8, FREE_PARTNERS = 3;

    /**
     * The LEAN weights, which do not depend on worths. Each takes at most four sets, a byte for
     * each: the set in its upper digit, six times the weight in its lower one, as weights are
     * halves and thirds. They stand in the order of their sets' bits, so that the first of like
     * ones is THE BAR. A test works them out anew.
     */
    private static final int WHOLE_WEIGHT = 6, MOST_LEAN_SETS = 4;
    private static final long[] LEAN_OF_ONE = {};
    private static final long[] LEAN_OF_TWO = {0x1626L};
    private static final long[] LEAN_OF_THREE = {
        0x162646L, 0x3646L, 0x2656L, 0x1666L, 0x335363L
    };
    private static final long[] LEAN_OF_FOUR = {
        0x16264686L, 0x364686L, 0x265686L, 0x166686L, 0x33536386L, 0x7686L,
        0x264696L, 0x6696L, 0x1646a6L, 0x56a6L, 0x334693a3L, 0x437393a3L,
        0x46b6L, 0x536383b3L, 0x1626c6L, 0x36c6L, 0x265393c3L, 0x237393c3L,
        0x1663a3c3L, 0x1373a3c3L, 0x7492a2c2L, 0x2353b3c3L, 0x1363b3c3L, 0x5262b4c2L,
        0x73b3c3L, 0x26d6L, 0x336383d3L, 0x3343a3d3L, 0x1363a3d3L, 0x3262a2d4L,
        0x73a3d3L, 0x63b3d3L, 0x16e6L, 0x335383e3L, 0x334393e3L, 0x235393e3L,
        0x325292e4L, 0x7393e3L, 0x53b3e3L, 0x33d3e3L, 0x72b2d2e2L
    };

    private final Told[] ventures;
    private int ventureCount;
    private final Proof proof;
    private final Proof freshProof;
    private final Trace bodies;
    private final Sheet[] sheets;

    public JointWorks() {
        ventures = new Told[MOST_VENTURES];
        ventureCount = 0;
        proof = new Proof();
        freshProof = new Proof();
        bodies = new Trace();
        sheets = new Sheet[SHEETS];
    }

    // ---- making ventures

    public int venture(int n) {
        if (!isSize(n)) {
            return BAD;
        }
        return isFull() ? FULL : enter(new Told(ventureCount, n));
    }

    public int set(int venture, int set, int v) {
        Told it = find(venture);
        if (it == null || !it.isFilledSet(set) || !isToldWorth(v)) {
            return BAD;
        }
        if (it.kind() != TOLD) {
            return STATE;
        }
        it.put(set, v);
        return 1;
    }

    public int votes(int n, int weights, int quota) {
        if (!isSize(n) || !isCode(weights, WEIGHT_BASE, n) || quota < 1 || quota > MOST_QUOTA) {
            return BAD;
        }
        return isFull() ? FULL : enter(new Votes(ventureCount, n, weights, quota));
    }

    public int runway(int n, int needs) {
        if (!isSize(n) || !isCode(needs, NEED_BASE, n)) {
            return BAD;
        }
        return isFull() ? FULL : enter(new Runway(ventureCount, n, needs));
    }

    public int gloves(int n, int left) {
        if (!isSize(n) || left < 0 || left >= 1 << n) {
            return BAD;
        }
        return isFull() ? FULL : enter(new Gloves(ventureCount, n, left));
    }

    public int sum(int first, int second, int p, int q) {
        Told one = find(first);
        Told two = find(second);
        if (one == null || two == null || !isTimes(p) || !isTimes(q)) {
            return BAD;
        }
        if (one.n != two.n) {
            return STATE;
        }
        if (isFull() || !isJoinedRange(one, two, p, q)) {
            return FULL;
        }
        Joined made = new Joined(ventureCount, one.n);
        for (int set = 1; set <= made.all(); set++) {
            made.put(set, p * one.worthOf(set) + q * two.worthOf(set));
        }
        return enter(made);
    }

    public int drop(int venture, int partner) {
        Told it = find(venture);
        if (it == null || !it.hasPartner(partner)) {
            return BAD;
        }
        if (it.n == 1) {
            return STATE;
        }
        if (isFull()) {
            return FULL;
        }
        Joined made = new Joined(ventureCount, it.n - 1);
        for (int set = 1; set <= made.all(); set++) {
            made.put(set, it.worthOf(withGap(set, partner)));
        }
        return enter(made);
    }

    public int join(int venture, int a, int b) {
        Told it = find(venture);
        if (it == null || !it.hasPartner(a) || !it.hasPartner(b) || a >= b) {
            return BAD;
        }
        if (isFull()) {
            return FULL;
        }
        Joined made = new Joined(ventureCount, it.n - 1);
        for (int set = 1; set <= made.all(); set++) {
            made.put(set, it.worthOf(withGap(set, b) | bit(set, a) << b));
        }
        return enter(made);
    }

    public int other(int venture) {
        Told it = find(venture);
        if (it == null) {
            return BAD;
        }
        if (isFull()) {
            return FULL;
        }
        Joined made = new Joined(ventureCount, it.n);
        for (int set = 1; set <= made.all(); set++) {
            made.put(set, it.worthOfAll() - it.worthOf(it.all() & ~set));
        }
        return enter(made);
    }

    public int close() {
        if (ventureCount < 1 || ventureCount > ventures.length) {
            return STATE;
        }
        ventureCount--;
        ventures[ventureCount] = null;
        return ventureCount;
    }

    // ---- asking of ventures

    public int told(int venture, int what) {
        Told it = find(venture);
        if (it == null) {
            return BAD;
        }
        switch (what) {
            case 0:
                return it.kind();
            case 1:
                return it.n;
            case 2:
                return it.foundCore().cornerCount > 0 ? 1 : 0;
            case 3:
                return it.foundCore().cornerCount;
            case 4:
                return it.notConvexAt() == NONE ? 1 : 0;
            case 5:
                return it.dummies();
            case 6:
                return it.spoilers();
            default:
                return BAD;
        }
    }

    public long worth(int venture, int set) {
        Told it = find(venture);
        return it == null || set < 0 || set > it.all() ? NO : it.worthOf(set);
    }

    public long adds(int venture, int partner, int set) {
        Told it = find(venture);
        if (it == null || !it.hasPartner(partner) || set < 0 || set > it.all()
                || bit(set, partner) == 1) {
            return NO;
        }
        return it.addsTo(partner, set);
    }

    public long part(int venture, int way, int partner, int what) {
        Told it = find(venture);
        if (it == null || !isWay(way) || !it.hasPartner(partner)) {
            return NO;
        }
        return lowest(it.partAbove(way, partner), it.partBelow(way), what);
    }

    public long lacks(int venture, int way, int set, int what) {
        Told it = find(venture);
        if (it == null || !isWay(way) || !it.isProperSet(set)) {
            return NO;
        }
        return lowest(it.lacksAbove(way, set), it.partBelow(way), what);
    }

    public int worst(int venture, int way) {
        Told it = find(venture);
        return it == null || !isWay(way) ? BAD : it.worstSet(way);
    }

    public long corner(int venture, int i, int partner, int what) {
        Told it = find(venture);
        if (it == null || !it.hasPartner(partner)) {
            return NO;
        }
        Core core = it.foundCore();
        if (i < 0 || i >= core.cornerCount) {
            return NO;
        }
        return lowest(core.twiceAt(i, partner), 2, what);
    }

    public long spread(int venture, int partner, int way, int what) {
        Told it = find(venture);
        if (it == null || !it.hasPartner(partner) || !isWay(way)) {
            return NO;
        }
        Core core = it.foundCore();
        if (core.cornerCount == 0) {
            return NO;
        }
        return lowest(core.twiceEnd(partner, way == 1), 2, what);
    }

    public long least(int venture, int what) {
        Told it = find(venture);
        if (it == null || it.n == 1) {
            return NO;
        }
        long weights = it.barWeights();
        return lowest(it.excessAbove(weights), weightSum(weights), what);
    }

    public long bar(int venture, int set, int what) {
        Told it = find(venture);
        if (it == null || !it.isProperSet(set)) {
            return NO;
        }
        return lowest(weightOf(it.barWeights(), set), WHOLE_WEIGHT, what);
    }

    public int where(int venture) {
        Told it = find(venture);
        return it == null ? BAD : it.notConvexAt();
    }

    public int like(int venture, int a, int b) {
        Told it = find(venture);
        if (it == null || !it.hasPartner(a) || !it.hasPartner(b) || a == b) {
            return BAD;
        }
        return it.areLike(a, b) ? 1 : 0;
    }

    public int power(int venture, int partner, int way) {
        Told it = find(venture);
        if (it == null || !it.hasPartner(partner) || !isWay(way)) {
            return BAD;
        }
        return it.kind() != VOTES ? STATE : it.swings(partner, way == 1);
    }

    // ---- proofs

    public int write(int venture) {
        Told it = find(venture);
        if (it == null) {
            return BAD;
        }
        proof.prove(it);
        return proof.size;
    }

    public long row(int i) {
        return proof.has(i) ? proof.numberAt(i) : NO;
    }

    public int forge(int i, long v) {
        if (!proof.has(i)) {
            return BAD;
        }
        proof.alter(i, v);
        return 1;
    }

    public int check(int venture) {
        Told it = find(venture);
        if (it == null) {
            return BAD;
        }
        freshProof.prove(it);
        return proof.differsAt(freshProof);
    }

    // ---- acts

    public int act(int venture, int act, int x) {
        bodies.clear();
        Told it = find(venture);
        if (it == null) {
            return 0;
        }
        switch (act) {
            case GIVES:
                return it.actGives(x, bodies);
            case LACKS:
                return it.actLacks(x, bodies);
            case SHARES:
                return it.actShares(x, bodies);
            default:
                return 0;
        }
    }

    public int trace(int i) {
        return bodies.bodyAt(i);
    }

    public int count(int what) {
        switch (what) {
            case 0:
                return ventureCount;
            case 1:
                return proof.size;
            case 2:
                return bodies.ran;
            default:
                return BAD;
        }
    }

    // ---- sheets

    public int sheet(int sheet, int sort, int n) {
        if (!isSheet(sheet) || sort != MISSING && !isSort(sort)) {
            return BAD;
        }
        if (sort == MISSING) {
            sheets[sheet] = null;
            return 1;
        }
        if (n > MOST_ITEMS) {
            return BAD;
        }
        if (n < 0) {
            return BELOW_ZERO;
        }
        sheets[sheet] = new Sheet(sort, n);
        return 1;
    }

    public int cell(int sheet, int i, int v) {
        if (!isSheet(sheet)) {
            return BAD;
        }
        Sheet it = sheets[sheet];
        if (it == null) {
            return NOTHING;
        }
        if (!it.holds(i, 1)) {
            return OUTSIDE;
        }
        it.put(i, v);
        return 1;
    }

    public int lay(int venture, int sheet, int sort, int i) {
        Told it = find(venture);
        if (it == null || !isSheet(sheet) || !isSort(sort)) {
            return BAD;
        }
        if (it.kind() != TOLD) {
            return STATE;
        }
        Sheet from = sheets[sheet];
        // A missing sheet is taken for any sort: that nothing is there shows only when it is used.
        if (from != null && from.sort != sort) {
            return OTHER_SORT;
        }
        if (from == null) {
            return NOTHING;
        }
        if (!from.holds(i, it.all())) {
            return OUTSIDE;
        }
        if (!hasToldWorths(from, i, it.all())) {
            return BAD;
        }
        for (int set = 1; set <= it.all(); set++) {
            it.put(set, (int) from.itemAt(i + set - 1));
        }
        return 1;
    }

    public int copy(int sheet, int i, int other, int j, int n) {
        if (!isSheet(sheet) || !isSheet(other)) {
            return BAD;
        }
        Sheet from = sheets[sheet];
        Sheet to = sheets[other];
        if (from == null || to == null) {
            return NOTHING;
        }
        if (from.sort != to.sort) {
            return OTHER_SORT;
        }
        if (!from.holds(i, n) || !to.holds(j, n)) {
            return OUTSIDE;
        }
        System.arraycopy(from.items, i, to.items, j, n);
        return n;
    }

    public int taken(int venture, int k) {
        if (k < TOLD || k > JOINED) {
            return BAD;
        }
        Told it = find(venture);
        if (it == null) {
            return NOTHING;
        }
        return k == TOLD || k == it.kind() ? it.n : OTHER_SORT;
    }

    // ---- the desk's own hands

    private Told find(int venture) {
        return venture < 0 || venture >= ventureCount || venture >= ventures.length
                ? null : ventures[venture];
    }

    private boolean isFull() {
        return ventureCount >= ventures.length;
    }

    private int enter(Told made) {
        if (ventureCount < 0 || isFull()) {
            return FULL;
        }
        ventures[ventureCount] = made;
        ventureCount++;
        return ventureCount - 1;
    }

    private static boolean isJoinedRange(Told one, Told two, int p, int q) {
        for (int set = 1; set <= one.all(); set++) {
            int worth = p * one.worthOf(set) + q * two.worthOf(set);
            if (worth < -MOST_JOINED || worth > MOST_JOINED) {
                return false;
            }
        }
        return true;
    }

    private static boolean hasToldWorths(Sheet from, int i, int many) {
        for (int k = 0; k < many; k++) {
            if (!isToldWorth(from.itemAt(i + k))) {
                return false;
            }
        }
        return true;
    }

    private static boolean isSize(int n) {
        return n >= 1 && n <= MOST_PARTNERS;
    }

    private static boolean isToldWorth(long v) {
        return v >= -MOST_TOLD && v <= MOST_TOLD;
    }

    private static boolean isTimes(int p) {
        return p >= -MOST_TIMES && p <= MOST_TIMES;
    }

    private static boolean isWay(int way) {
        return way == 0 || way == 1;
    }

    private boolean isSheet(int sheet) {
        return sheet >= 0 && sheet < sheets.length;
    }

    private static boolean isSort(int sort) {
        return sort >= BYTES && sort <= LONGS;
    }

    /** Whether a number is one of n digits of a base. */
    private static boolean isCode(int code, int base, int n) {
        int beyond = 1;
        for (int i = 0; i < n; i++) {
            beyond *= base;
        }
        return code >= 0 && code < beyond;
    }

    private static int bit(int set, int partner) {
        return set >> partner & 1;
    }

    /** The set with those from a place on moved up by one, so that nobody has that place. */
    private static int withGap(int set, int place) {
        int ahead = set & (1 << place) - 1;
        return ahead | (set & ~ahead) << 1;
    }

    private static int factorial(int k) {
        int product = 1;
        for (int i = 2; i <= k; i++) {
            product *= i;
        }
        return product;
    }

    private static long[] leanOf(int n) {
        switch (n) {
            case 2:
                return LEAN_OF_TWO;
            case 3:
                return LEAN_OF_THREE;
            case 4:
                return LEAN_OF_FOUR;
            default:
                return LEAN_OF_ONE;
        }
    }

    /** The set that byte k of LEAN weights is of; 0 if that has none. */
    private static int leanSet(long weights, int k) {
        return (int) (weights >> 8 * k + 4) & 15;
    }

    /** Six times the weight in byte k of LEAN weights. */
    private static int leanWeight(long weights, int k) {
        return (int) (weights >> 8 * k) & 15;
    }

    /** Six times the weight that LEAN weights give to a set. */
    private static int weightOf(long weights, int set) {
        for (int k = 0; k < MOST_LEAN_SETS; k++) {
            if (leanSet(weights, k) == set) {
                return leanWeight(weights, k);
            }
        }
        return 0;
    }

    /** Six times the sum of LEAN weights. */
    private static int weightSum(long weights) {
        int total = 0;
        for (int k = 0; k < MOST_LEAN_SETS; k++) {
            total += leanWeight(weights, k);
        }
        return total;
    }

    /** One of both numbers of a fraction in lowest terms; NO if there is no such number. */
    private static long lowest(long above, long below, int what) {
        long divisor = commonDivisor(Math.abs(above), below);
        if (divisor < 1 || what != ABOVE && what != BELOW) {
            return NO;
        }
        return (what == ABOVE ? above : below) / divisor;
    }

    private static long commonDivisor(long a, long b) {
        long greater = a;
        long lesser = b;
        // Two steps at least halve the greater one, so 128 are enough for any two longs.
        for (int i = 0; i < 128 && lesser != 0; i++) {
            long rest = greater % lesser;
            greater = lesser;
            lesser = rest;
        }
        return greater;
    }

    // ---- kinds of ventures

    /** A venture whose worths are told; the other kinds stand under it. */
    private static class Told {
        final int number;
        final int n;
        private final int[] worths;
        private final int[] partsAbove;
        private final Core core;
        private boolean isCoreFound;

        Told(int number, int n) {
            this.number = number;
            this.n = n;
            worths = new int[MOST_SETS];
            partsAbove = new int[MOST_PARTNERS];
            core = new Core();
            isCoreFound = false;
        }

        int kind() {
            return TOLD;
        }

        int actGives(int x, Trace trace) {
            trace.began(10);
            return x + worthOf(all());
        }

        int actLacks(int x, Trace trace) {
            trace.began(11);
            return actGives(x, trace) * n;
        }

        int actShares(int x, Trace trace) {
            trace.began(12);
            int lacking = actLacks(x, trace);
            return lacking ^ actGives(x + number, trace);
        }

        final int all() {
            return (1 << n) - 1;
        }

        final boolean hasPartner(int partner) {
            return partner >= 0 && partner < n;
        }

        final boolean isFilledSet(int set) {
            return set >= 1 && set <= all();
        }

        final boolean isProperSet(int set) {
            return set >= 1 && set < all();
        }

        final int worthOf(int set) {
            return set < 0 || set >= worths.length ? 0 : worths[set];
        }

        final int worthOfAll() {
            return worthOf(all());
        }

        final void put(int set, int v) {
            if (isFilledSet(set) && set < worths.length) {
                worths[set] = v;
                isCoreFound = false;
            }
        }

        /** The core, looked for only when it is asked for and a worth has changed since. */
        final Core foundCore() {
            if (!isCoreFound) {
                core.lookFor(this);
                isCoreFound = true;
            }
            return core;
        }

        final int addsTo(int partner, int set) {
            return worthOf(set | 1 << partner) - worthOf(set);
        }

        final int dummies() {
            int found = 0;
            for (int partner = 0; partner < n; partner++) {
                if (isDummy(partner)) {
                    found |= 1 << partner;
                }
            }
            return found;
        }

        private boolean isDummy(int partner) {
            int own = worthOf(1 << partner);
            for (int set = 0; set <= all(); set++) {
                if (bit(set, partner) == 0 && addsTo(partner, set) != own) {
                    return false;
                }
            }
            return true;
        }

        final boolean areLike(int a, int b) {
            for (int set = 0; set <= all(); set++) {
                if (bit(set, a) == 0 && bit(set, b) == 0 && addsTo(a, set) != addsTo(b, set)) {
                    return false;
                }
            }
            return true;
        }

        /** How many make the worth of all the less by coming. */
        final int spoilers() {
            int found = 0;
            for (int partner = 0; partner < n; partner++) {
                if (addsTo(partner, all() & ~(1 << partner)) < 0) {
                    found++;
                }
            }
            return found;
        }

        /** Partner, lesser set and greater set that show that it is not convex, in one number. */
        final int notConvexAt() {
            for (int partner = 0; partner < n; partner++) {
                for (int lesser = 0; lesser <= all(); lesser++) {
                    int greater = bit(lesser, partner) == 1 ? NONE : addsLessTo(partner, lesser);
                    if (greater != NONE) {
                        return 256 * partner + 16 * lesser + greater;
                    }
                }
            }
            return NONE;
        }

        /** The first set that holds a lesser one and to which a partner adds less than to that. */
        private int addsLessTo(int partner, int lesser) {
            int toLesser = addsTo(partner, lesser);
            for (int greater = lesser + 1; greater <= all(); greater++) {
                if ((greater & lesser) == lesser && bit(greater, partner) == 0
                        && addsTo(partner, greater) < toLesser) {
                    return greater;
                }
            }
            return NONE;
        }

        /** In how many orders of coming just the partners of a set are ahead of a partner. */
        private int ordersBehind(int set) {
            int ahead = Integer.bitCount(set);
            return factorial(ahead) * factorial(n - 1 - ahead);
        }

        /** In how many sets, or orders of coming, a partner swings; for VOTES alone. */
        final int swings(int partner, boolean byOrders) {
            int found = 0;
            for (int set = 0; set <= all(); set++) {
                if (bit(set, partner) == 0 && worthOf(set) == 0 && addsTo(partner, set) == 1) {
                    found += byOrders ? ordersBehind(set) : 1;
                }
            }
            return found;
        }

        /** The number below the line of TURNS or EQUAL, not in lowest terms. */
        final int partBelow(int way) {
            return way == TURNS ? factorial(n) : n;
        }

        /** The number above the line, with partBelow() below it. */
        final int partAbove(int way, int partner) {
            return way == TURNS ? turnsAbove(partner) : equalAbove(partner);
        }

        private int turnsAbove(int partner) {
            int total = 0;
            for (int set = 0; set <= all(); set++) {
                if (bit(set, partner) == 0) {
                    total += ordersBehind(set) * addsTo(partner, set);
                }
            }
            return total;
        }

        private int equalAbove(int partner) {
            int rest = worthOfAll();
            for (int i = 0; i < n; i++) {
                rest -= worthOf(1 << i);
            }
            return n * worthOf(1 << partner) + rest;
        }

        final int lacksAbove(int way, int set) {
            takeParts(way);
            return lacksOfTaken(way, set);
        }

        private void takeParts(int way) {
            for (int partner = 0; partner < n && partner < partsAbove.length; partner++) {
                partsAbove[partner] = partAbove(way, partner);
            }
        }

        /** What the parts that were taken last lack for a set, with partBelow() below the line. */
        private int lacksOfTaken(int way, int set) {
            int lacking = worthOf(set) * partBelow(way);
            for (int partner = 0; partner < n && partner < partsAbove.length; partner++) {
                lacking -= bit(set, partner) * partsAbove[partner];
            }
            return lacking;
        }

        final int worstSet(int way) {
            takeParts(way);
            int found = NONE;
            int most = 0;
            for (int set = 1; set < all(); set++) {
                int lacking = lacksOfTaken(way, set);
                if (found == NONE || lacking > most) {
                    found = set;
                    most = lacking;
                }
            }
            return found;
        }

        /** The LEAN weights of THE BAR; 0 for one partner alone. */
        final long barWeights() {
            long[] lean = leanOf(n);
            long found = 0;
            long foundAbove = 0;
            long foundBelow = 0;
            for (int i = 0; i < lean.length; i++) {
                long above = excessAbove(lean[i]);
                long below = weightSum(lean[i]);
                if (i == 0 || above * foundBelow > foundAbove * below) {
                    found = lean[i];
                    foundAbove = above;
                    foundBelow = below;
                }
            }
            return found;
        }

        /** Six times what the worths by LEAN weights are more than the worth of all. */
        final int excessAbove(long weights) {
            int excess = -WHOLE_WEIGHT * worthOfAll();
            for (int k = 0; k < MOST_LEAN_SETS; k++) {
                excess += leanWeight(weights, k) * worthOf(leanSet(weights, k));
            }
            return excess;
        }
    }

    private static final class Votes extends Told {
        Votes(int number, int n, int weights, int quota) {
            super(number, n);
            for (int set = 1; set <= all(); set++) {
                put(set, together(set, weights) >= quota ? 1 : 0);
            }
        }

        private static int together(int set, int weights) {
            int total = 0;
            int left = weights;
            for (int partner = 0; partner < MOST_PARTNERS; partner++) {
                total += bit(set, partner) * (left % WEIGHT_BASE);
                left /= WEIGHT_BASE;
            }
            return total;
        }

        int kind() {
            return VOTES;
        }

        int actGives(int x, Trace trace) {
            trace.began(20);
            return super.actGives(x, trace) * 2;
        }

        int actShares(int x, Trace trace) {
            trace.began(21);
            return super.actShares(x, trace) - 1;
        }
    }

    private static final class Runway extends Told {
        Runway(int number, int n, int needs) {
            super(number, n);
            for (int set = 1; set <= all(); set++) {
                put(set, -greatest(set, needs));
            }
        }

        private static int greatest(int set, int needs) {
            int most = 0;
            int left = needs;
            for (int partner = 0; partner < MOST_PARTNERS; partner++) {
                most = Math.max(most, bit(set, partner) * (left % NEED_BASE));
                left /= NEED_BASE;
            }
            return most;
        }

        int kind() {
            return RUNWAY;
        }

        int actLacks(int x, Trace trace) {
            trace.began(30);
            return super.actLacks(x, trace) + number;
        }
    }

    private static final class Gloves extends Told {
        Gloves(int number, int n, int left) {
            super(number, n);
            for (int set = 1; set <= all(); set++) {
                put(set, Math.min(Integer.bitCount(set & left), Integer.bitCount(set & ~left)));
            }
        }

        int kind() {
            return GLOVES;
        }

        int actShares(int x, Trace trace) {
            trace.began(40);
            int given = actGives(x, trace);
            return given - super.actShares(x + 1, trace);
        }
    }

    private static final class Joined extends Told {
        Joined(int number, int n) {
            super(number, n);
        }

        int kind() {
            return JOINED;
        }

        int actGives(int x, Trace trace) {
            trace.began(50);
            return super.actGives(x - n, trace);
        }

        int actLacks(int x, Trace trace) {
            trace.began(51);
            int lacking = super.actLacks(x, trace);
            return lacking ^ super.actGives(x, trace);
        }
    }

    // ---- what ventures are looked at with

    /**
     * The corners of a venture's core. A venture of fewer than four is taken for one of four in
     * which the others add nothing: they get 0 in each part of the core, so the corners are the
     * same. What three partners get settles the fourth's part, so each set of the three has a
     * least and a greatest that it may get; a corner is where three of these ends meet. Three
     * rows of 0 and 1 have a determinant from -2 to 2: what partners get is told in halves.
     */
    private static final class Core {
        int cornerCount;
        private final int[] corners;
        private final int[] point;
        private final int[] twiceLeast;
        private final int[] twiceMost;
        private final int[] inverse;
        private int twiceAll;

        Core() {
            cornerCount = 0;
            corners = new int[MOST_CORNERS * MOST_PARTNERS];
            point = new int[MOST_PARTNERS];
            twiceLeast = new int[FREE_SETS];
            twiceMost = new int[FREE_SETS];
            inverse = new int[FREE_PARTNERS * FREE_PARTNERS];
            twiceAll = 0;
        }

        /** Twice what a partner gets in corner i. */
        int twiceAt(int i, int partner) {
            int place = i * MOST_PARTNERS + partner;
            return place < 0 || place >= corners.length ? 0 : corners[place];
        }

        /** Twice the least, or the greatest, that a partner gets in any corner. */
        int twiceEnd(int partner, boolean greatest) {
            int end = twiceAt(0, partner);
            for (int i = 1; i < cornerCount; i++) {
                int next = twiceAt(i, partner);
                end = greatest ? Math.max(end, next) : Math.min(end, next);
            }
            return end;
        }

        void lookFor(Told venture) {
            cornerCount = 0;
            takeEnds(venture);
            if (!haveEndsRoom()) {
                return;
            }
            for (int a = 1; a < FREE_SETS; a++) {
                for (int b = a + 1; b < FREE_SETS; b++) {
                    for (int c = b + 1; c < FREE_SETS; c++) {
                        meet(a, b, c);
                    }
                }
            }
        }

        private void takeEnds(Told venture) {
            int all = venture.all();
            twiceAll = 2 * venture.worthOfAll();
            for (int set = 0; set < FREE_SETS; set++) {
                twiceLeast[set] = 2 * venture.worthOf(set & all);
                twiceMost[set] = twiceAll - 2 * venture.worthOf(all & ~set);
            }
        }

        /** Whether no set's least is above its most: else a look at the corners is spared. */
        private boolean haveEndsRoom() {
            for (int set = 1; set < FREE_SETS; set++) {
                if (twiceLeast[set] > twiceMost[set]) {
                    return false;
                }
            }
            return true;
        }

        private void meet(int a, int b, int c) {
            int determinant = 0;
            for (int k = 0; k < FREE_PARTNERS; k++) {
                determinant += bit(a, k) * cross(b, c, k);
            }
            if (determinant == 0) {
                return;
            }
            for (int k = 0; k < FREE_PARTNERS; k++) {
                inverse[3 * k] = cross(b, c, k);
                inverse[3 * k + 1] = cross(c, a, k);
                inverse[3 * k + 2] = cross(a, b, k);
            }
            for (int ends = 0; ends < 8; ends++) {
                solve(endOf(a, bit(ends, 0)), endOf(b, bit(ends, 1)), endOf(c, bit(ends, 2)),
                        determinant);
                if (isPointInside()) {
                    keepPoint();
                }
            }
        }

        /** Item k of the cross product of two sets taken for rows of 0 and 1. */
        private static int cross(int p, int q, int k) {
            int second = k == 2 ? 0 : k + 1;
            int third = k == 0 ? 2 : k - 1;
            return bit(p, second) * bit(q, third) - bit(p, third) * bit(q, second);
        }

        private int endOf(int set, int end) {
            if (set < 0 || set >= FREE_SETS) {
                return 0;
            }
            return end == 0 ? twiceLeast[set] : twiceMost[set];
        }

        private void solve(int atA, int atB, int atC, int determinant) {
            if (determinant == 0) {
                return;
            }
            int left = twiceAll;
            for (int k = 0; k < FREE_PARTNERS; k++) {
                int times = inverse[3 * k] * atA + inverse[3 * k + 1] * atB
                        + inverse[3 * k + 2] * atC;
                point[k] = times / determinant;
                left -= point[k];
            }
            point[FREE_PARTNERS] = left;
        }

        private boolean isPointInside() {
            int x = point[0];
            int y = point[1];
            int z = point[2];
            return mayGet(1, x) && mayGet(2, y) && mayGet(3, x + y) && mayGet(4, z)
                    && mayGet(5, x + z) && mayGet(6, y + z) && mayGet(7, x + y + z);
        }

        private boolean mayGet(int set, int twice) {
            return set >= 0 && set < FREE_SETS && twice >= twiceLeast[set]
                    && twice <= twiceMost[set];
        }

        /** Puts the point at its place in the order of corners, unless it stands there. */
        private void keepPoint() {
            int place = 0;
            while (place < cornerCount && orderAgainst(place) > 0) {
                place++;
            }
            boolean isKnown = place < cornerCount && orderAgainst(place) == 0;
            if (isKnown || cornerCount >= MOST_CORNERS) {
                return;
            }
            int from = place * MOST_PARTNERS;
            int moved = (cornerCount - place) * MOST_PARTNERS;
            System.arraycopy(corners, from, corners, from + MOST_PARTNERS, moved);
            System.arraycopy(point, 0, corners, from, MOST_PARTNERS);
            cornerCount++;
        }

        /** Below 0, 0, above 0 as the point comes ahead of a corner, is it, comes behind it. */
        private int orderAgainst(int corner) {
            for (int k = 0; k < MOST_PARTNERS; k++) {
                int order = Integer.compare(point[k], twiceAt(corner, k));
                if (order != 0) {
                    return order;
                }
            }
            return 0;
        }
    }

    /** THE ROWS. */
    private static final class Proof {
        int size;
        private final long[] numbers;

        Proof() {
            size = 0;
            numbers = new long[MOST_ROWS];
        }

        void prove(Told venture) {
            size = 0;
            for (int set = 1; set <= venture.all(); set++) {
                append(venture.worthOf(set));
            }
            for (int partner = 0; partner < venture.n; partner++) {
                appendFraction(venture.partAbove(TURNS, partner), venture.partBelow(TURNS));
            }
            if (venture.n > 1) {
                long weights = venture.barWeights();
                appendFraction(venture.excessAbove(weights), weightSum(weights));
            }
        }

        private void appendFraction(long above, long below) {
            append(lowest(above, below, ABOVE));
            append(lowest(above, below, BELOW));
        }

        private void append(long number) {
            if (size >= 0 && size < numbers.length) {
                numbers[size] = number;
                size++;
            }
        }

        boolean has(int i) {
            return i >= 0 && i < size && i < numbers.length;
        }

        long numberAt(int i) {
            return has(i) ? numbers[i] : NO;
        }

        void alter(int i, long v) {
            if (has(i)) {
                numbers[i] = v;
            }
        }

        /** The first place at which both are not the same, or just one has a number. */
        int differsAt(Proof other) {
            for (int i = 0; i < MOST_ROWS; i++) {
                if (has(i) != other.has(i) || numberAt(i) != other.numberAt(i)) {
                    return i;
                }
            }
            return NONE;
        }
    }

    /** THE TRACE. */
    private static final class Trace {
        int ran;
        private final int[] kept;

        Trace() {
            ran = 0;
            kept = new int[MOST_KEPT_BODIES];
        }

        void clear() {
            ran = 0;
        }

        void began(int body) {
            if (ran >= 0 && ran < kept.length) {
                kept[ran] = body;
            }
            ran++;
        }

        int bodyAt(int i) {
            return i < 0 || i >= ran || i >= kept.length ? NONE : kept[i];
        }
    }

    /** A row of numbers of a sort. */
    private static final class Sheet {
        final int sort;
        final long[] items;

        Sheet(int sort, int n) {
            this.sort = sort;
            items = new long[Math.max(n, 0)];
        }

        /** Whether many items from i on are all within it; many may be 0 at its very end. */
        boolean holds(int i, int many) {
            return i >= 0 && many >= 0 && i <= items.length && many <= items.length - i;
        }

        long itemAt(int i) {
            return holds(i, 1) ? items[i] : 0;
        }

        void put(int i, int v) {
            if (holds(i, 1)) {
                items[i] = sort == BYTES ? (byte) v : v;
            }
        }
    }
}
