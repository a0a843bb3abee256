/** The edges of promises 25 to 31: proofs, acts, the trace and counts. */
public final class ProofEdgeTests {
    private static final int NONE = Bench.NONE, BAD = Bench.BAD;
    private static final int LOWEST = Bench.LOWEST, HIGHEST = Bench.HIGHEST;
    private static final long NO = Bench.NO;

    /** Ventures of 1 to 4 partners, by their places, whose proofs have 3, 9, 15, 25 numbers. */
    private static final String[] SIZES = {"venture 1", "venture 2", "venture 3", "venture 4"};
    private static final int[] LENGTHS = {3, 9, 15, 25};

    /** One venture of two partners of each kind with worths of ALL 4, 1, -2, 1, 4. */
    private static final String[] KINDS = {
        "venture 2", "set 0 1 1", "set 0 2 2", "set 0 3 4", "votes 2 22 2", "runway 2 53",
        "gloves 2 1", "other 0"
    };

    private static final Bench BENCH = new Bench();

    private static void write() {
        Bench b = BENCH;
        b.promise(25);
        b.sentence("THE ROWS are the proof of a VENTURE: how many numbers.", SIZES);
        for (int venture = 3; venture >= 0; venture--) {
            b.does("write " + venture, LENGTHS[venture]);
            b.asks("count 1", LENGTHS[venture]);
            b.refuses("row " + LENGTHS[venture], NO);
        }
        b.does("write 3", 25);
        b.asks("row 24", 1);
        b.desk("venture 2", "set 0 1 1", "set 0 2 2", "set 0 3 4");
        b.does("write 0", 9);
        long[] rows = {1, 2, 4, 3, 2, 5, 2, -1, 2};
        for (int i = 0; i < rows.length; i++) {
            b.asks("row " + i, rows[i]);
        }
        // THE ROWS stand for themselves, and a new proof takes the place of one that was altered.
        b.does("set 0 1 -100", 1);
        b.asks("row 0", 1);
        b.does("forge 0 5", 1);
        b.does("write 0", 9);
        b.asks("row 0", -100);
        b.does("close", 0);
        b.asks("row 0", -100);
        b.asks("count 1", 9);

        b.sentence("BAD.", "venture 2", "set 0 1 7", "write 0");
        b.refusesAll(BAD, "write 1", "write -1", "write lowest", "write highest");
        b.asks("row 0", 7);
        b.desk("venture 1", "write 0", "forge 0 3");
        b.does("close", 0);
        b.refuses("write 0", BAD);
        b.asks("count 1", 3);
    }

    private static void row() {
        Bench b = BENCH;
        b.promise(26);
        b.sentence("Number i of THE ROWS. NO: none such.", SIZES);
        b.refusesAll(NO, "row 0", "row -1", "row 24");
        for (int venture = 0; venture < 4; venture++) {
            b.does("set " + venture + " " + ((2 << venture) - 1) + " 7", 1);
            b.does("write " + venture, LENGTHS[venture]);
            b.asks("row 0", venture == 0 ? 7 : 0);
            // The last one is below a line: 7/1 of TURNS for one partner, else -7/n of LEAST.
            b.asks("row " + (LENGTHS[venture] - 1), venture + 1);
            b.refusesAll(NO, "row " + LENGTHS[venture], "row -1", "row lowest", "row highest");
        }
        b.refuses("row 25", NO);
        b.does("write 0", 3);
        b.asks("row 2", 1);
        b.refusesAll(NO, "row 3", "row 24");
    }

    private static void forge() {
        Bench b = BENCH;
        b.promise(27);
        b.sentence("Number i of THE ROWS becomes v: 1.", "venture 2", "write 0");
        b.does("forge 0 9223372036854775807", 1);
        b.asks("row 0", Long.MAX_VALUE);
        b.does("forge 8 -9223372036854775808", 1);
        b.asks("row 8", Long.MIN_VALUE);
        b.does("forge 4 " + NO, 1);
        b.asks("row 4", NO);
        b.asks("count 1", 9);
        b.asks("worth 0 1", 0);

        b.sentence("BAD.", SIZES);
        b.refusesAll(BAD, "forge 0 1", "forge -1 1");
        for (int venture = 0; venture < 4; venture++) {
            b.does("write " + venture, LENGTHS[venture]);
            b.does("forge " + (LENGTHS[venture] - 1) + " 5", 1);
            b.refusesAll(BAD, "forge " + LENGTHS[venture] + " 5", "forge -1 5", "forge lowest 5",
                    "forge highest 5");
        }
        b.does("write 0", 3);
        b.refusesAll(BAD, "forge 3 5", "forge 24 5");
    }

    private static void check() {
        Bench b = BENCH;
        b.promise(28);
        b.sentence("The first number of THE ROWS that is not what write() would write of a VENTURE there",
                "venture 2", "set 0 1 1", "set 0 2 2", "set 0 3 4", "write 0");
        long[] rows = {1, 2, 4, 3, 2, 5, 2, -1, 2};
        for (int i = rows.length - 1; i >= 0; i--) {
            b.does("forge " + i + " 99", 1);
            b.asks("check 0", i);
        }
        for (int i = 0; i < rows.length; i++) {
            b.asks("check 0", i);
            b.does("forge " + i + " " + rows[i], 1);
        }
        b.asks("check 0", NONE);
        // All 64 bits count.
        b.does("forge 3 " + (3 + (1L << 32)), 1);
        b.asks("check 0", 3);
        b.does("forge 3 3", 1);
        b.does("set 0 3 5", 1);
        b.asks("check 0", 2);

        b.sentence("(also where one of both has none).", SIZES);
        for (int venture = 0; venture < 4; venture++) {
            b.asks("check " + venture, 0);
        }
        // The rows of one partner, 8, 8, 1, are also the first three of the two.
        b.desk("venture 1", "set 0 1 8", "venture 2", "set 1 1 8", "set 1 2 8", "set 1 3 1");
        b.does("write 0", 3);
        b.asks("check 1", 3);
        b.does("write 1", 9);
        b.asks("check 0", 3);
        b.does("forge 3 " + NO, 1);
        b.asks("check 0", 3);
        b.asks("check 1", 3);

        b.sentence("NONE: there is none.", SIZES);
        for (int venture = 0; venture < 4; venture++) {
            b.does("write " + venture, LENGTHS[venture]);
            b.asks("check " + venture, NONE);
        }
        b.does("other 3", 4);
        b.asks("check 4", NONE);

        b.sentence("BAD.", "venture 1", "write 0");
        b.refusesAll(BAD, "check 1", "check -1", "check lowest", "check highest");
        b.does("close", 0);
        b.refuses("check 0", BAD);
    }

    private static void act() {
        Bench b = BENCH;
        b.promise(29);
        b.sentence("An ACT of a VENTURE with x: what it answers.", KINDS);
        // x at both ends; a kind's own bodies are worked out in TermsEdgeTests.
        b.does("act 0 0 highest", LOWEST + 3);
        b.does("act 0 0 lowest", LOWEST + 4);
        b.does("act 1 0 highest", 0);
        b.does("act 2 0 lowest", HIGHEST - 1);
        b.does("act 3 0 highest", LOWEST);
        b.does("act 4 0 lowest", LOWEST + 2);
        b.does("act 0 0 -4", 0);
        b.traces(10);

        b.sentence("0, and no TRACE then: no such VENTURE, act.", KINDS);
        String[] wrong = {"act 5 0 7", "act -1 0 7", "act lowest 0 7", "act highest 0 7", "act 0 3 7",
            "act 0 -1 7", "act 0 lowest 7", "act 0 highest 7", "act 5 3 7"};
        for (String call : wrong) {
            b.does("act 4 2 7", (9 * 2 ^ 11) ^ 13);
            b.asks("count 2", 8);
            b.does(call, 0);
            b.traces();
        }
        b.does("write 0", 9);
        b.does("act 0 3 7", 0);
        b.asks("count 1", 9);
        b.worths(0, 1, 2, 4);
    }

    private static void trace() {
        Bench b = BENCH;
        b.promise(30);
        b.sentence("THE TRACE's i-th body. NONE: none such.", KINDS);
        b.refusesAll(NONE, "trace 0", "trace -1", "trace 40", "trace lowest", "trace highest");
        b.does("act 4 2 7", (9 * 2 ^ 11) ^ 13);
        b.asks("trace 0", 12);
        b.asks("trace 7", 10);
        b.refusesAll(NONE, "trace 8", "trace -1", "trace 39", "trace 40", "trace 41",
                "trace lowest", "trace highest");
        b.does("act 0 0 7", 11);
        b.asks("trace 0", 10);
        b.refusesAll(NONE, "trace 1", "trace 7");
        b.does("close", 4);
        b.asks("trace 0", 10);
    }

    private static void count() {
        Bench b = BENCH;
        b.promise(31);
        b.sentence("How many: 0 VENTURES, 1 numbers of THE ROWS, 2 bodies of THE TRACE (all that ran).",
                SIZES);
        b.asks("count 0", 4);
        b.asks("count 1", 0);
        b.asks("count 2", 0);
        b.does("write 3", 25);
        b.does("act 3 2 0", 3);
        b.asks("count 0", 4);
        b.asks("count 1", 25);
        b.asks("count 2", 4);

        b.sentence("BAD.", SIZES);
        b.refusesAll(BAD, "count 3", "count -1", "count lowest", "count highest");
        b.desk();
        b.refusesAll(BAD, "count 3", "count -1");
    }

    public static void main(String[] args) {
        write();
        row();
        forge();
        check();
        act();
        trace();
        count();
        BENCH.end();
    }
}
