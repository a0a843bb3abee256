import java.util.Arrays;

/** The edges that the document's Terms name, ahead of the promises. */
public final class TermsEdgeTests {
    private static final int NONE = Bench.NONE, BAD = Bench.BAD, STATE = Bench.STATE;
    private static final int FULL = Bench.FULL, NOTHING = Bench.NOTHING, OUTSIDE = Bench.OUTSIDE;
    private static final int OTHER_SORT = Bench.OTHER_SORT, BELOW_ZERO = Bench.BELOW_ZERO;
    private static final int LOWEST = Bench.LOWEST, HIGHEST = Bench.HIGHEST;
    private static final long NO = Bench.NO;

    /** One venture of each kind with worths of ALL 4, 1, -2, 1, 4, rows, a trace and sheets. */
    private static final String[] RICH = {
        "venture 2", "set 0 1 1", "set 0 2 2", "set 0 3 4", "votes 2 22 2", "runway 2 53",
        "gloves 2 1", "other 0", "sheet 0 1 4", "cell 0 0 5", "cell 0 1 6", "cell 0 2 7",
        "cell 0 3 101", "sheet 1 0 2", "cell 1 1 9", "sheet 2 2 0", "write 0", "forge 0 77",
        "act 4 2 3"
    };

    private static final Bench BENCH = new Bench();

    private static String[] times(int many, String call) {
        String[] calls = new String[many];
        Arrays.fill(calls, call);
        return calls;
    }

    private static int wrapped(long number) {
        return (int) number;
    }

    private static void lastCall() {
        Bench b = BENCH;
        b.chapter("## What it is", "## The public face");
        b.sentence("An object is used for at most 512 calls after it has been made");
        for (int i = 0; i < 255; i++) {
            b.does("venture 4", 0);
            b.does("close", 0);
        }
        b.does("gloves 2 1", 0);
        b.does("worth 0 3", 1);
        b.desk(times(510, "sheet 3 2 40"));
        b.does("cell 3 39 7", 1);
        b.does("cell 3 40 7", OUTSIDE);
        b.desk("venture 1");
        for (int i = 0; i < 510; i++) {
            b.does("act 0 2 1", 0);
        }
        b.does("count 2", 4);
    }

    private static void partnersAndSets() {
        Bench b = BENCH;
        b.chapter("## Terms", "==== 1 KINDS");
        b.sentence("A VENTURE has PARTNERS 0 .. n - 1 (n 1 .. 4)");
        b.refusesAll(BAD, "venture 0", "venture 5", "venture -1", "venture lowest",
                "venture highest", "votes 0 0 1", "votes 5 0 1", "votes -1 0 1",
                "votes lowest 0 1", "votes highest 0 1", "runway 0 0", "runway 5 0",
                "runway -1 0", "runway lowest 0", "runway highest 0", "gloves 0 0", "gloves 5 0",
                "gloves -1 0", "gloves lowest 0", "gloves highest 0", "gloves 32 0",
                "gloves 33 1");
        for (int n = 1; n <= 4; n++) {
            b.desk("venture " + n, "votes " + n + " 0 1", "runway " + n + " 0", "gloves " + n + " 0");
            for (int venture = 0; venture < 4; venture++) {
                b.asks("told " + venture + " 1", n);
                b.asks("adds " + venture + " " + (n - 1) + " 0", 0);
                b.refuses("adds " + venture + " " + n + " 0", NO);
                b.refuses("adds " + venture + " -1 0", NO);
            }
        }

        b.sentence("the empty SET has 0", RICH);
        for (int venture = 0; venture < 5; venture++) {
            b.asks("worth " + venture + " 0", 0);
        }
        b.refuses("set 0 0 5", BAD);
        b.refuses("set 0 0 0", BAD);

        b.sentence("ALL is the SET of all", "venture 1", "venture 2", "venture 3", "venture 4",
                "set 0 1 9", "set 1 3 9", "set 2 7 9", "set 3 15 9");
        for (int n = 1; n <= 4; n++) {
            b.asks("worth " + (n - 1) + " " + ((1 << n) - 1), 9);
            b.refuses("worth " + (n - 1) + " " + (1 << n), NO);
        }

        b.sentence("PARTNER i ADDS to a SET without i: WORTH of both less that of the SET.",
                "venture 2", "set 0 1 -100", "set 0 2 100", "set 0 3 -100");
        b.asks("adds 0 0 0", -100);
        b.asks("adds 0 0 2", -200);
        b.asks("adds 0 1 1", 0);
        b.refusesAll(NO, "adds 0 0 1", "adds 0 0 3", "adds 0 1 2", "adds 0 1 3");
    }

    private static void tenVentures() {
        Bench b = BENCH;
        b.sentence("VENTURES (10 at most) are numbered from 0 as they come.");
        for (int i = 0; i < 10; i++) {
            b.does("venture 2", i);
            b.asks("count 0", i + 1);
        }
        b.refusesAll(FULL, "venture 2", "votes 2 22 2", "runway 2 53", "gloves 2 1", "sum 0 1 1 1",
                "drop 9 1", "join 9 0 1", "other 9");
        b.asks("told 9 1", 2);
        b.refuses("told 10 1", BAD);
        for (String last : new String[] {"votes 2 22 2", "runway 2 53", "gloves 2 1",
            "sum 0 1 1 1", "drop 8 1", "join 8 0 1", "other 8"}) {
            b.desk(times(9, "venture 2"));
            b.does(last, 9);
            b.refuses(last, FULL);
            b.does("close", 9);
            b.does(last, 9);
        }
    }

    private static void fractions() {
        Bench b = BENCH;
        b.sentence("FRACTIONS are told in lowest terms, below the line above 0 (what 0: above the line, "
                + "1: below it).", "venture 4", "set 0 14 1", "set 0 1 -2", "set 0 7 2");
        // EQUAL: OWN is -2 for partner 0 and 0 for others, ALL has 0, so each gets 2/4 more.
        b.asksFraction("part 0 1 0", -3, 2);
        b.asksFraction("part 0 1 1", 1, 2);
        b.asksFraction("lacks 0 1 1", -1, 2);
        b.asksFraction("lacks 0 1 3", 1, 1);
        b.asksFraction("lacks 0 1 6", -1, 1);
        b.desk("venture 4");
        b.asksFraction("part 0 0 3", 0, 1);
        b.asksFraction("part 0 1 3", 0, 1);
        b.asksFraction("lacks 0 0 7", 0, 1);
        b.asksFraction("corner 0 0 3", 0, 1);
        b.asksFraction("spread 0 3 1", 0, 1);
        b.asksFraction("least 0", 0, 1);
        b.asksFraction("bar 0 3", 0, 1);
        b.refusesAll(NO, "part 0 0 0 lowest", "part 0 0 0 highest", "lacks 0 0 1 highest",
                "corner 0 0 0 highest", "spread 0 0 0 highest", "least 0 highest",
                "bar 0 1 highest");
    }

    private static void refusals() {
        Bench b = BENCH;
        b.sentence("NONE is -1; NO, where a long is answered, -4611686018427387904.", "venture 1");
        b.same("NONE", JointWorks.NONE, -1);
        b.same("NO", JointWorks.NO, -4611686018427387904L);
        b.asks("where 0", -1);
        b.asks("least 0 0", -4611686018427387904L);

        b.sentence("Refusals, the first that the call's words name; they change nothing", RICH);
        b.refusesAll(BAD, "venture 5", "set 5 1 1", "set 4 1 101", "votes 2 441 2", "runway 2 2601",
                "gloves 2 4", "sum 0 5 1 1", "sum 0 1 4 1", "drop 0 2", "join 0 1 0", "other 5",
                "told 5 0", "worst 5 0", "where 5", "like 0 1 1", "power 0 0 2", "write 5",
                "forge 9 1", "check 5", "count 3", "sheet 4 0 1", "sheet 0 0 41", "cell 4 0 1",
                "lay 5 0 1 0", "lay 0 0 1 1", "copy 4 0 0 0 1", "taken 5 5");
        b.refusesAll(STATE, "set 1 1 1", "set 4 3 1", "power 0 0 0", "lay 4 3 0 9");
        b.refusesAll(NO, "worth 0 4", "adds 0 0 1", "part 0 0 2 0", "lacks 0 0 3 0",
                "corner 0 9 0 0", "spread 0 2 0 0", "least 5 0", "bar 0 3 0", "row 9");
        b.refuses("trace 9", NONE);

        b.sentence("BAD (-2: a number is none such or not as told), STATE (-3), FULL (-4)");
        b.same("BAD", JointWorks.BAD, -2);
        b.same("STATE", JointWorks.STATE, -3);
        b.same("FULL", JointWorks.FULL, -4);
        b.refuses("venture 0", -2);
        b.refuses("close", -3);
        b.desk(times(10, "venture 1"));
        b.refuses("venture 1", -4);

        b.sentence("the host's: -11 nothing where something is asked, -12 a place outside, "
                + "-13 a thing of another sort or KIND, -14 a size below 0.", RICH);
        b.refusesAll(-11, "cell 3 0 1", "lay 0 3 0 0", "copy 0 0 3 0 1", "taken 5 0");
        b.refusesAll(-12, "cell 0 4 1", "lay 0 0 1 2", "copy 0 3 0 0 2");
        b.refusesAll(-13, "lay 0 0 0 0", "copy 0 0 1 0 1", "taken 0 1");
        b.refusesAll(-14, "sheet 0 0 -1", "sheet 3 2 lowest");
    }

    private static void kinds() {
        Bench b = BENCH;
        b.chapter("==== 1 KINDS", "==== 2 A PART");
        b.sentence("0 TOLD: WORTHS are told one by one (0 at first), -100 .. 100.", "venture 2");
        b.worths(0, 0, 0, 0);
        b.does("set 0 1 100", 1);
        b.does("set 0 3 -100", 1);
        b.worths(0, 100, 0, -100);
        b.refusesAll(BAD, "set 0 1 101", "set 0 1 -101", "set 0 2 highest", "set 0 2 lowest");

        b.sentence("PARTNERS have weights 0 .. 20, there is a quota 1 .. 80: a SET with weights that "
                + "make the quota or more together has 1, else 0.");
        b.does("votes 2 420 20", 0);
        b.worths(0, 0, 1, 1);
        b.does("votes 2 420 21", 1);
        b.worths(1, 0, 0, 0);
        b.does("votes 2 20 1", 2);
        b.worths(2, 1, 0, 1);
        b.does("votes 2 440 40", 3);
        b.worths(3, 0, 0, 1);
        b.does("votes 4 194480 80", 4);
        b.worths(4, 0, 0, 0, 0, 0, 0, 0, 0, 0, 0, 0, 0, 0, 0, 1);
        b.does("votes 4 194480 60", 5);
        b.worths(5, 0, 0, 0, 0, 0, 0, 1, 0, 0, 0, 1, 0, 1, 1, 1);
        b.does("votes 1 20 80", 6);
        b.worths(6, 0);
        b.refusesAll(BAD, "votes 2 420 0", "votes 2 420 81", "votes 2 441 20", "votes 2 -1 20");

        b.sentence("PARTNERS have needs 0 .. 50: a SET has 0 less the greatest need in it.");
        b.does("runway 3 0", 0);
        b.worths(0, 0, 0, 0, 0, 0, 0, 0);
        b.does("runway 3 132650", 1);
        b.worths(1, -50, -50, -50, -50, -50, -50, -50);
        b.does("runway 2 2550", 2);
        b.worths(2, 0, -50, -50);
        b.does("runway 2 2549", 3);
        b.worths(3, -50, -49, -50);
        b.refusesAll(BAD, "runway 2 2601", "runway 2 -1");

        b.sentence("PARTNERS have a left glove (1) or a right one (0): a SET has how many pairs it can "
                + "make.");
        b.does("gloves 4 0", 0);
        b.worths(0, 0, 0, 0, 0, 0, 0, 0, 0, 0, 0, 0, 0, 0, 0, 0);
        b.does("gloves 4 15", 1);
        b.worths(1, 0, 0, 0, 0, 0, 0, 0, 0, 0, 0, 0, 0, 0, 0, 0);
        b.does("gloves 4 10", 2);
        b.worths(2, 0, 0, 1, 0, 0, 1, 1, 0, 1, 0, 1, 1, 1, 1, 2);
        b.does("gloves 1 1", 3);
        b.worths(3, 0);
    }

    private static void standAlone() {
        Bench b = BENCH;
        b.sentence("4 JOINED, under TOLD: made of others.", RICH);
        b.asks("told 4 0", 4);
        b.asks("taken 4 0", 2);
        b.asks("taken 4 4", 2);

        b.sentence("All stand for themselves: what comes to others later does not change them.",
                "venture 2", "set 0 1 1", "set 0 2 2", "set 0 3 4", "sum 0 0 1 1", "drop 0 0",
                "join 0 0 1", "other 0", "sum 1 4 1 1", "sheet 0 1 3", "cell 0 0 50");
        b.does("set 0 3 9", 1);
        b.does("lay 0 0 1 0", 1);
        b.does("cell 0 0 60", 1);
        b.does("sheet 0 -1 0", 1);
        b.worths(0, 50, 0, 0);
        b.worths(1, 2, 4, 8);
        b.worths(2, 2);
        b.worths(3, 4);
        b.worths(4, 2, 3, 4);
        b.worths(5, 4, 7, 12);
        b.desk("venture 2", "set 0 3 4", "venture 2", "set 1 3 5", "sheet 0 2 3", "cell 0 2 7",
                "lay 1 0 2 0");
        b.does("close", 1);
        b.does("gloves 3 1", 1);
        b.worths(0, 0, 0, 4);
        b.worths(1, 0, 0, 1, 0, 1, 0, 1);
    }

    private static void coreEdges() {
        Bench b = BENCH;
        b.chapter("==== 2 A PART", "==== 3 THE ROWS");
        b.sentence("It LACKS for a SET (not empty, not ALL)", "venture 2", "venture 4");
        b.refusesAll(NO, "lacks 0 0 0 0", "lacks 0 0 3 0", "lacks 1 1 0 0", "lacks 1 1 15 0");
        b.asks("lacks 0 0 1 0", 0);
        b.asks("lacks 0 0 2 0", 0);
        b.asks("lacks 1 1 14 0", 0);

        b.sentence("CORE: all PARTS that lack for no SET more than 0.", "venture 3", "set 0 3 2",
                "set 0 5 2", "set 0 6 2", "set 0 7 3");
        b.asks("told 0 2", 1);
        b.asks("told 0 3", 1);
        b.asksFraction("lacks 0 0 3", 0, 1);
        b.does("set 0 7 2", 1);
        b.asks("told 0 2", 0);
        b.asks("told 0 3", 0);
        b.does("set 0 7 4", 1);
        b.asks("told 0 3", 3);
        b.desk("venture 2", "set 0 1 3", "set 0 2 4", "set 0 3 7");
        b.asks("told 0 2", 1);
        b.asks("told 0 3", 1);
        b.does("set 0 3 6", 1);
        b.asks("told 0 2", 0);
        b.does("set 0 3 8", 1);
        b.asks("told 0 3", 2);

        b.sentence("CORNERS: the PARTS in the CORE that are no mean of two other ones of it",
                "venture 2", "set 0 3 2");
        b.asks("told 0 3", 2);
        b.asksFraction("corner 0 0 0", 0, 1);
        b.asksFraction("corner 0 1 0", 2, 1);
        b.refuses("corner 0 2 0 0", NO);
        b.desk("venture 4", "set 0 15 1");
        b.asks("told 0 3", 4);
        b.desk("venture 4");
        b.asks("told 0 3", 1);
    }

    private static void cornerOrder() {
        Bench b = BENCH;
        b.sentence("they are in order by what PARTNER 0 gets, the least first, then PARTNER 1, and so "
                + "on.", "venture 4", "set 0 15 1");
        for (int i = 0; i < 4; i++) {
            for (int partner = 0; partner < 4; partner++) {
                b.asks("corner 0 " + i + " " + partner + " 0", i + partner == 3 ? 1 : 0);
            }
        }
        b.desk("venture 2", "set 0 1 -3", "set 0 2 -4", "set 0 3 -5");
        b.asks("corner 0 0 0 0", -3);
        b.asks("corner 0 0 1 0", -2);
        b.asks("corner 0 1 0 0", -1);
        b.asks("corner 0 1 1 0", -4);

        b.sentence("EQUAL is the PART by OWN and an equal share of what WORTH of ALL is more (or less) "
                + "than all OWNS.", "venture 2", "set 0 1 3", "set 0 2 4", "set 0 3 7");
        b.asksFraction("part 0 1 0", 3, 1);
        b.does("set 0 3 8", 1);
        b.asksFraction("part 0 1 0", 7, 2);
        b.asksFraction("part 0 1 1", 9, 2);
        b.does("set 0 3 2", 1);
        b.asksFraction("part 0 1 0", 1, 2);
        b.asksFraction("part 0 1 1", 3, 2);
        b.desk("venture 1", "set 0 1 -9");
        b.asksFraction("part 0 1 0", -9, 1);
    }

    private static void leastEdges() {
        Bench b = BENCH;
        b.sentence("BALANCED weights give each SET (not empty, not ALL) a fraction, 0 or above",
                "venture 3");
        b.refusesAll(NO, "bar 0 0 0", "bar 0 7 0", "bar 0 0 1", "bar 0 7 1");
        for (int set = 1; set < 7; set++) {
            b.asksFraction("bar 0 " + set, Integer.bitCount(set) == 1 ? 1 : 0, 1);
        }

        b.sentence("the least number which, taken off the WORTH of each SET but ALL and the empty one, "
                + "leaves a CORE that has a PART.", "venture 3", "set 0 3 6", "set 0 5 6",
                "set 0 6 6", "set 0 7 6");
        b.asksFraction("least 0", 2, 1);
        b.asks("told 0 2", 0);
        b.desk("venture 3", "set 0 1 -1", "set 0 2 -1", "set 0 4 -1", "set 0 3 5", "set 0 5 5",
                "set 0 6 5", "set 0 7 6");
        b.asksFraction("least 0", 1, 1);
        b.asks("told 0 2", 0);
        b.desk("venture 3", "set 0 1 -2", "set 0 2 -2", "set 0 4 -2", "set 0 3 4", "set 0 5 4",
                "set 0 6 4", "set 0 7 6");
        b.asksFraction("least 0", 0, 1);
        b.asks("told 0 2", 1);
        b.asks("told 0 3", 1);
        b.desk("venture 4", "set 0 7 12", "set 0 11 12", "set 0 13 12", "set 0 14 12", "set 0 15 12");
        b.asksFraction("least 0", 3, 1);
        b.does("set 0 15 16", 1);
        b.asksFraction("least 0", 0, 1);
        b.asks("told 0 3", 1);
        b.does("set 0 15 15", 1);
        b.asksFraction("least 0", 3, 4);
        b.asks("told 0 2", 0);
        b.does("set 0 15 17", 1);
        b.asksFraction("least 0", -3, 4);
        b.asks("told 0 3", 4);

        b.sentence("(For n 1 there is no such SET: no LEAST, and the only PART is in the CORE.)",
                "venture 1", "set 0 1 -100");
        b.refusesAll(NO, "least 0 0", "least 0 1", "bar 0 0 0", "bar 0 1 0", "bar 0 1 1",
                "lacks 0 0 0 0", "lacks 0 0 1 0");
        b.asks("told 0 2", 1);
        b.asks("told 0 3", 1);
        b.asksFraction("corner 0 0 0", -100, 1);
        b.asksFraction("spread 0 0 0", -100, 1);
        b.asksFraction("spread 0 0 1", -100, 1);

        b.sentence("THE BAR: of the LEAN weights that have this the ones whose SETS above 0, as bits "
                + "(bit SET - 1), make the least number.", "venture 3", "set 0 3 1", "set 0 5 1",
                "set 0 6 -1");
        // 3 with 4 (bits 12) and 2 with 5 (bits 18) both have 1/2.
        int[] want = {0, 0, 1, 1, 0, 0};
        for (int set = 1; set < 7; set++) {
            b.asksFraction("bar 0 " + set, want[set - 1], 1);
        }
        b.asksFraction("least 0", 1, 2);
    }

    private static void likenesses() {
        Bench b = BENCH;
        b.sentence("CONVEX: no PARTNER ADDS less to a greater SET (one that holds the other).",
                "venture 2", "set 0 1 1", "set 0 2 2", "set 0 3 3");
        b.asks("told 0 4", 1);
        b.asks("where 0", NONE);
        b.does("set 0 3 2", 1);
        b.asks("told 0 4", 0);
        b.asks("where 0", 2);
        // Partner 0 adds less to 4 than to 2, but 4 does not hold 2.
        b.desk("venture 3", "set 0 3 1", "set 0 7 1");
        b.asks("told 0 4", 1);

        b.sentence("A PARTNER is a DUMMY if it ADDS its own WORTH to each SET without it", "venture 3",
                "set 0 3 5", "set 0 4 2", "set 0 5 2", "set 0 6 2", "set 0 7 7");
        b.asks("told 0 5", 4);
        b.does("set 0 7 8", 1);
        b.asks("told 0 5", 0);
        b.desk("venture 1", "set 0 1 9");
        b.asks("told 0 5", 1);

        b.sentence("two are LIKE if both ADD alike to each SET without both.", "venture 3", "set 0 1 1",
                "set 0 2 1", "set 0 3 5", "set 0 4 2", "set 0 5 7", "set 0 6 7", "set 0 7 9");
        b.asks("like 0 0 1", 1);
        b.does("set 0 3 99", 1);
        b.does("set 0 7 -99", 1);
        b.asks("like 0 0 1", 1);
        b.does("set 0 5 8", 1);
        b.asks("like 0 0 1", 0);
        b.does("set 0 5 7", 1);
        b.does("set 0 1 2", 1);
        b.asks("like 0 0 1", 0);
        b.desk("venture 2", "set 0 1 1", "set 0 2 1");
        b.asks("like 0 0 1", 1);
        b.does("set 0 2 2", 1);
        b.asks("like 0 0 1", 0);

        b.sentence("a PARTNER SWINGS a SET without it if that has 0 and with it 1.", "votes 2 21 1",
                "votes 2 22 1", "votes 2 22 2", "votes 2 22 3", "votes 1 1 1", "votes 1 0 1");
        int[][] sets = {{0, 2}, {1, 1}, {1, 1}, {0, 0}, {1}, {0}};
        for (int venture = 0; venture < sets.length; venture++) {
            for (int partner = 0; partner < sets[venture].length; partner++) {
                b.asks("power " + venture + " " + partner + " 0", sets[venture][partner]);
                b.asks("power " + venture + " " + partner + " 1", sets[venture][partner]);
            }
        }
    }

    private static void rows() {
        Bench b = BENCH;
        b.chapter("==== 3 THE ROWS", "==== 4 ACTS");
        b.sentence("then LEAST (above, below; none for n 1)", "venture 1", "venture 2", "set 0 1 7");
        b.does("write 0", 3);
        b.asks("row 0", 7);
        b.asks("row 1", 7);
        b.asks("row 2", 1);
        b.refuses("row 3", NO);
        b.does("write 1", 9);
        b.asks("row 7", 0);
        b.asks("row 8", 1);
        b.refuses("row 9", NO);
    }

    private static void wraps() {
        Bench b = BENCH;
        b.chapter("==== 4 ACTS", "## Promise 1:");
        b.sentence("ACTS of VENTURES, with a number x (32 bits, wrapping)", "venture 4", "set 0 15 3",
                "venture 1", "set 1 1 -100");
        b.does("act 0 0 highest", wrapped(HIGHEST + 3L));
        b.does("act 1 0 lowest", wrapped(LOWEST - 100L));
        b.does("act 0 1 1073741824", 12);
        b.does("act 0 1 536870909", LOWEST);
        // gives(x) wraps to the lowest, and so does x + m, so that gives(x + m) is -100 off that.
        b.does("act 1 2 highest", wrapped(HIGHEST - 100L) ^ wrapped(LOWEST - 100L));

        b.sentence("VOTES: 20 gives: super.gives(x) * 2. 21 shares: super.shares(x) - 1.",
                "votes 2 22 2");
        b.does("act 0 0 1073741823", LOWEST);
        b.does("act 0 0 1073741824", LOWEST + 2);
        // lacks(x) is 0 and gives(x) the lowest: one less than that is the highest.
        b.does("act 0 2 1073741823", HIGHEST);

        b.sentence("RUNWAY: 30 lacks: super.lacks(x) + m.", "venture 1", "runway 1 0");
        b.does("act 1 1 highest", LOWEST);
        b.desk("runway 1 0");
        b.does("act 0 1 highest", HIGHEST);

        b.sentence("GLOVES: 40 shares: gives(x) - super.shares(x + 1).", "gloves 2 1");
        // gives(x) is the lowest; (lowest + 1) * 2 ^ (lowest + 1) is the lowest and 3.
        b.does("act 0 2 highest", -3);
        // the highest less the lowest
        b.does("act 0 2 2147483646", -1);

        b.sentence("JOINED: 50 gives: super.gives(x - n). 51 lacks: super.lacks(x) ^ super.gives(x).",
                "venture 3", "other 0");
        b.does("act 1 0 lowest", HIGHEST - 2);
        b.does("act 1 0 -2147483646", HIGHEST);
        b.does("act 1 0 -2147483645", LOWEST);
        b.does("act 1 1 lowest", wrapped((HIGHEST - 2L) * 3) ^ LOWEST);
    }

    private static void bodies() {
        Bench b = BENCH;
        b.sentence("the body of the VENTURE's KIND, or, if that has none, that of TOLD; "
                + "super.gives(..): that of TOLD.", RICH);
        int[][][] want = {
            {{10}, {11, 10}, {12, 11, 10, 10}},
            {{20, 10}, {11, 20, 10}, {21, 12, 11, 20, 10, 20, 10}},
            {{10}, {30, 11, 10}, {12, 30, 11, 10, 10}},
            {{10}, {11, 10}, {40, 10, 12, 11, 10, 10}},
            {{50, 10}, {51, 11, 50, 10, 10}, {12, 51, 11, 50, 10, 10, 50, 10}}
        };
        int[][] answers = {
            {9, 18, 18 ^ 9}, {12, 24, (24 ^ 14) - 1}, {3, 8, 8 ^ 5}, {6, 12, 6 - (14 ^ 10)},
            {7, 14 ^ 9, 14 ^ 9 ^ 11}
        };
        for (int venture = 0; venture < 5; venture++) {
            for (int act = 0; act < 3; act++) {
                b.does("act " + venture + " " + act + " 5", answers[venture][act]);
                b.traces(want[venture][act]);
            }
        }

        b.sentence("THE TRACE: the numbers of the bodies that ran in the latest act(), in the order in "
                + "which they began", RICH);
        b.traces(12, 51, 11, 50, 10, 10, 50, 10);
        b.does("act 0 0 5", 9);
        b.traces(10);

        // No act runs more than eight bodies, so that a fortieth never comes.
        b.sentence("the first 40 are kept.", RICH);
        b.asks("count 2", 8);
        b.asks("trace 7", 10);
        b.refusesAll(NONE, "trace 8", "trace 39", "trace 40", "trace 41", "trace -1",
                "trace lowest", "trace highest");
    }

    private static void sheets() {
        Bench b = BENCH;
        b.sentence("SHEETS 0 .. 3 are rows of numbers, or missing (as all are at first)");
        for (int sheet = 0; sheet < 4; sheet++) {
            b.refuses("cell " + sheet + " 0 1", NOTHING);
            b.does("sheet " + sheet + " 0 1", 1);
            b.does("cell " + sheet + " 0 1", 1);
        }
        b.refusesAll(BAD, "cell 4 0 1", "cell -1 0 1", "sheet 4 0 1", "sheet -1 0 1",
                "cell highest 0 1", "cell lowest 0 1", "sheet highest 0 1", "sheet lowest 0 1");

        b.sentence("of sort 0 bytes, 1 ints, 2 longs.", "venture 1", "sheet 0 0 1", "sheet 1 1 1",
                "sheet 2 2 1");
        for (int sheet = 0; sheet < 3; sheet++) {
            b.does("cell " + sheet + " 0 -1", 1);
            for (int sort = 0; sort < 3; sort++) {
                if (sort != sheet) {
                    b.refuses("lay 0 " + sheet + " " + sort + " 0", OTHER_SORT);
                }
            }
            b.does("lay 0 " + sheet + " " + sheet + " 0", 1);
            b.asks("worth 0 1", -1);
        }
        b.refusesAll(BAD, "sheet 0 3 1", "sheet 0 -2 1", "lay 0 0 3 0", "lay 0 0 -1 0");
        b.refuses("sheet 0 0 -1", BELOW_ZERO);
    }

    public static void main(String[] args) {
        lastCall();
        partnersAndSets();
        tenVentures();
        fractions();
        refusals();
        kinds();
        standAlone();
        coreEdges();
        cornerOrder();
        leastEdges();
        likenesses();
        rows();
        wraps();
        bodies();
        sheets();
        BENCH.end();
    }
}
