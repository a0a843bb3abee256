import java.util.Arrays;

/** The edges of promises 1 to 11: a new object, and how ventures come and go. */
public final class MakingEdgeTests {
    private static final int BAD = Bench.BAD, STATE = Bench.STATE, FULL = Bench.FULL;
    private static final int NONE = Bench.NONE, NOTHING = Bench.NOTHING;
    private static final long NO = Bench.NO;

    /** One venture of two partners of each kind, TOLD first. */
    private static final String[] KINDS = {
        "venture 2", "set 0 1 1", "set 0 2 2", "set 0 3 4", "votes 2 22 2", "runway 2 53",
        "gloves 2 1", "other 0"
    };

    private static final Bench BENCH = new Bench();

    /** Ten ventures of two, or nine and one of a last call. */
    private static String[] ten(String last) {
        String[] calls = new String[10];
        Arrays.fill(calls, "venture 2");
        calls[9] = last;
        return calls;
    }

    private static String[] ten() {
        return ten("venture 2");
    }

    private static void newObject() {
        Bench b = BENCH;
        b.promise(1);
        b.sentence("No VENTURES, no ROWS.");
        b.asks("count 0", 0);
        b.asks("count 1", 0);
        b.asks("count 2", 0);
        b.refuses("close", STATE);
        b.refusesAll(NO, "worth 0 0", "row 0", "adds 0 0 0", "part 0 0 0 0", "lacks 0 0 1 0",
                "corner 0 0 0 0", "spread 0 0 0 0", "least 0 0", "bar 0 1 0");
        b.refusesAll(BAD, "set 0 1 1", "sum 0 0 1 1", "drop 0 0", "join 0 0 1", "other 0",
                "told 0 0", "worst 0 0", "where 0", "like 0 0 1", "power 0 0 0", "write 0",
                "forge 0 0", "check 0", "lay 0 0 0 0");
        b.refusesAll(NOTHING, "taken 0 0", "cell 0 0 0", "copy 0 0 0 0 0");
        b.refuses("trace 0", NONE);
        b.asks("act 0 0 0", 0);
        JointWorks one = new JointWorks();
        JointWorks two = new JointWorks();
        one.venture(1);
        one.write(0);
        one.act(0, 0, 1);
        one.sheet(0, 0, 1);
        b.same("another's count(0)", two.count(0), 0);
        b.same("another's count(1)", two.count(1), 0);
        b.same("another's count(2)", two.count(2), 0);
        b.same("another's cell(0, 0, 1)", two.cell(0, 0, 1), NOTHING);
    }

    private static void venture() {
        Bench b = BENCH;
        b.promise(2);
        b.sentence("A TOLD VENTURE: its number. BAD; FULL.");
        b.refusesAll(BAD, "venture 0", "venture 5", "venture -1", "venture lowest",
                "venture highest");
        b.does("venture 1", 0);
        b.does("venture 4", 1);
        b.asks("told 0 0", 0);
        b.asks("told 0 1", 1);
        b.asks("told 1 1", 4);
        b.desk(ten());
        b.refuses("venture 1", FULL);
        b.refuses("venture 4", FULL);
        b.refuses("venture 0", BAD);
        b.refuses("venture 5", BAD);
        b.does("close", 9);
        b.does("venture 4", 9);
        b.refuses("venture 4", FULL);
    }

    private static void set() {
        Bench b = BENCH;
        b.promise(3);
        b.sentence("The WORTH of a SET (1 .. ALL) of a TOLD VENTURE (KIND 0) becomes v: 1.", "venture 1",
                "venture 2", "venture 3", "venture 4");
        for (int n = 1; n <= 4; n++) {
            String set = "set " + (n - 1) + " ";
            int all = (1 << n) - 1;
            b.does(set + "1 -100", 1);
            b.does(set + all + " 100", 1);
            b.refuses(set + "0 1", BAD);
            b.refuses(set + (all + 1) + " 1", BAD);
            b.refuses(set + "-1 1", BAD);
            b.refuses(set + "highest 1", BAD);
            b.refuses(set + "lowest 1", BAD);
        }
        b.worths(0, 100);
        b.worths(1, -100, 0, 100);
        b.worths(3, -100, 0, 0, 0, 0, 0, 0, 0, 0, 0, 0, 0, 0, 0, 100);
        b.does("set 1 3 0", 1);
        b.worths(1, -100, 0, 0);

        b.sentence("BAD; STATE: another KIND.", KINDS);
        b.refusesAll(BAD, "set 5 1 1", "set -1 1 1", "set highest 1 1", "set lowest 1 1",
                "set 0 1 101", "set 0 1 -101", "set 0 1 highest", "set 0 1 lowest");
        for (int venture = 1; venture < 5; venture++) {
            String set = "set " + venture + " ";
            b.refusesAll(STATE, set + "1 0", set + "3 -100", set + "3 100");
            b.refusesAll(BAD, set + "0 0", set + "4 0", set + "1 101", set + "3 -101");
        }
        b.desk("gloves 2 1");
        b.does("close", 0);
        b.refuses("set 0 1 1", BAD);
    }

    private static void votes() {
        Bench b = BENCH;
        b.promise(4);
        b.sentence("a PARTNER's weights are by its place: weights is the sum of weight(i) 21^i");
        b.does("votes 4 194480 20", 0);
        b.worths(0, 1, 1, 1, 1, 1, 1, 1, 1, 1, 1, 1, 1, 1, 1, 1);
        b.does("votes 4 9261 1", 1);
        b.worths(1, 0, 0, 0, 0, 0, 0, 0, 1, 1, 1, 1, 1, 1, 1, 1);
        b.does("votes 4 9260 20", 2);
        b.worths(2, 1, 1, 1, 1, 1, 1, 1, 0, 1, 1, 1, 1, 1, 1, 1);
        b.does("votes 2 21 1", 3);
        b.worths(3, 0, 1, 1);
        b.does("votes 2 20 20", 4);
        b.worths(4, 1, 0, 1);
        b.does("votes 1 0 1", 5);
        b.worths(5, 0);

        b.sentence("BAD: also weights below 0 or 21^n and above; FULL.");
        int[] beyond = {21, 441, 9261, 194481};
        for (int n = 1; n <= 4; n++) {
            String votes = "votes " + n + " ";
            b.does(votes + (beyond[n - 1] - 1) + " 1", n - 1);
            b.asks("worth " + (n - 1) + " 1", 1);
            b.refusesAll(BAD, votes + beyond[n - 1] + " 1", votes + "-1 1", votes + "lowest 1",
                    votes + "highest 1", votes + "0 0", votes + "0 81", votes + "0 -1",
                    votes + "0 lowest", votes + "0 highest");
        }
        b.does("votes 2 22 1", 4);
        b.does("votes 2 22 80", 5);
        b.refusesAll(BAD, "votes 0 0 1", "votes 5 0 1");
        b.desk(ten());
        b.refusesAll(FULL, "votes 1 0 1", "votes 4 194480 80");
        b.refusesAll(BAD, "votes 0 0 1", "votes 5 0 1", "votes 2 441 1", "votes 2 -1 1",
                "votes 2 22 0", "votes 2 22 81");
    }

    private static void runway() {
        Bench b = BENCH;
        b.promise(5);
        b.sentence("needs is the sum of need(i) 51^i.");
        b.does("runway 4 132651", 0);
        b.worths(0, 0, 0, 0, 0, 0, 0, 0, -1, -1, -1, -1, -1, -1, -1, -1);
        b.does("runway 4 132650", 1);
        b.worths(1, -50, -50, -50, -50, -50, -50, -50, 0, -50, -50, -50, -50, -50, -50, -50);
        b.does("runway 2 51", 2);
        b.worths(2, 0, -1, -1);
        b.does("runway 2 50", 3);
        b.worths(3, -50, 0, -50);

        b.sentence("BAD: also beyond; FULL.");
        int[] beyond = {51, 2601, 132651, 6765201};
        for (int n = 1; n <= 4; n++) {
            String runway = "runway " + n + " ";
            b.does(runway + (beyond[n - 1] - 1), n - 1);
            b.asks("worth " + (n - 1) + " " + (1 << n - 1), -50);
            b.refusesAll(BAD, runway + beyond[n - 1], runway + "-1", runway + "lowest",
                    runway + "highest");
        }
        b.does("runway 1 0", 4);
        b.worths(4, 0);
        b.refusesAll(BAD, "runway 0 0", "runway 5 0");
        b.desk(ten());
        b.refusesAll(FULL, "runway 1 0", "runway 4 6765200");
        b.refusesAll(BAD, "runway 0 0", "runway 5 0", "runway 2 2601", "runway 2 -1");
    }

    private static void gloves() {
        Bench b = BENCH;
        b.promise(6);
        b.sentence("bits of those with a left one. BAD; FULL.");
        for (int n = 1; n <= 4; n++) {
            String gloves = "gloves " + n + " ";
            b.does(gloves + "0", 2 * n - 2);
            b.does(gloves + ((1 << n) - 1), 2 * n - 1);
            b.asks("worth " + (2 * n - 2) + " " + ((1 << n) - 1), 0);
            b.asks("worth " + (2 * n - 1) + " " + ((1 << n) - 1), 0);
            b.refusesAll(BAD, gloves + (1 << n), gloves + "-1", gloves + "lowest",
                    gloves + "highest");
        }
        b.does("gloves 4 8", 8);
        b.worths(8, 0, 0, 0, 0, 0, 0, 0, 0, 1, 1, 1, 1, 1, 1, 1);
        b.refusesAll(BAD, "gloves 0 0", "gloves 5 0");
        b.desk(ten());
        b.refusesAll(FULL, "gloves 1 0", "gloves 4 15");
        b.refusesAll(BAD, "gloves 0 0", "gloves 5 0", "gloves 2 4", "gloves 2 -1");
    }

    private static void sum() {
        Bench b = BENCH;
        b.promise(7);
        b.sentence("p times the first one's WORTH and q times the second one's (-3 .. 3).", "venture 2",
                "set 0 1 1", "set 0 3 100", "venture 2", "set 1 2 1", "set 1 3 -100");
        b.does("sum 0 1 3 -3", 2);
        b.worths(2, 3, -3, 600);
        b.does("sum 0 1 -3 3", 3);
        b.worths(3, -3, 3, -600);
        b.does("sum 0 1 0 0", 4);
        b.worths(4, 0, 0, 0);
        b.does("sum 0 0 2 -1", 5);
        b.worths(5, 1, 0, 100);
        b.does("sum 1 0 2 1", 6);
        b.worths(6, 1, 2, -100);
        b.refusesAll(BAD, "sum 0 1 4 0", "sum 0 1 -4 0", "sum 0 1 0 4", "sum 0 1 0 -4",
                "sum 0 1 lowest 0", "sum 0 1 highest 0", "sum 0 1 0 lowest", "sum 0 1 0 highest");

        b.sentence("BAD; STATE: unlike n;", "venture 2", "venture 3", "venture 1", "venture 4");
        b.refusesAll(STATE, "sum 0 1 1 1", "sum 1 0 1 1", "sum 2 3 0 0", "sum 3 1 3 3");
        b.refusesAll(BAD, "sum 4 0 1 1", "sum 0 4 1 1", "sum -1 0 1 1", "sum 0 -1 1 1",
                "sum highest 0 1 1", "sum 0 lowest 1 1", "sum 0 1 4 1", "sum 0 1 1 -4",
                "sum 4 4 1 1");
        b.does("sum 0 0 1 1", 4);
        sumFull();
    }

    private static void sumFull() {
        Bench b = BENCH;
        String[] thousand = {"venture 2", "set 0 2 100", "sum 0 0 3 3", "sum 1 0 1 3", "sum 2 0 1 1",
            "set 0 2 1"};
        b.sentence("FULL: a WORTH beyond -1000 .. 1000, or no room.", thousand);
        b.worths(3, 0, 1000, 0);
        b.refuses("sum 3 0 1 1", FULL);
        b.refuses("sum 3 0 -1 -1", FULL);
        b.refuses("sum 0 3 1 1", FULL);
        b.refuses("sum 3 3 3 3", FULL);
        b.does("sum 3 0 1 -1", 4);
        b.worths(4, 0, 999, 0);
        b.does("sum 3 0 -1 0", 5);
        b.worths(5, 0, -1000, 0);
        b.refuses("sum 5 0 1 -1", FULL);
        b.does("sum 5 0 -1 0", 6);
        b.worths(6, 0, 1000, 0);
        // What counts is the worth, not what it is made of.
        b.does("sum 3 3 3 -3", 7);
        b.worths(7, 0, 0, 0);
        b.does("sum 3 5 3 2", 8);
        b.worths(8, 0, 1000, 0);
        b.desk("venture 2", "set 0 1 100", "sum 0 0 3 3", "sum 1 0 1 3", "sum 2 0 1 1", "set 0 1 1");
        b.refuses("sum 3 0 1 1", FULL);
        b.desk("venture 2", "set 0 3 100", "sum 0 0 3 3", "sum 1 0 1 3", "sum 2 0 1 1", "set 0 3 1");
        b.refuses("sum 3 0 1 1", FULL);
        b.desk("venture 4", "set 0 15 100", "sum 0 0 3 3", "sum 1 0 1 3", "sum 2 0 1 1",
                "set 0 15 1", "venture 1");
        b.refuses("sum 3 0 1 1", FULL);
        b.refuses("sum 3 4 1 1", STATE);
        b.refuses("sum 3 0 4 1", BAD);
        b.desk(ten("venture 1"));
        b.refuses("sum 0 1 1 1", FULL);
        b.refuses("sum 0 9 1 1", STATE);
        b.refuses("sum 0 10 1 1", BAD);
        b.refuses("sum 0 9 4 1", BAD);
    }

    private static void drop() {
        Bench b = BENCH;
        b.promise(8);
        b.sentence("A JOINED one without a PARTNER; those behind it have numbers one less.", "venture 4");
        for (int set = 1; set < 16; set++) {
            b.does("set 0 " + set + " " + set, 1);
        }
        b.does("drop 0 0", 1);
        b.worths(1, 2, 4, 6, 8, 10, 12, 14);
        b.does("drop 0 3", 2);
        b.worths(2, 1, 2, 3, 4, 5, 6, 7);
        b.does("drop 0 1", 3);
        b.worths(3, 1, 4, 5, 8, 9, 12, 13);
        b.does("drop 3 2", 4);
        b.worths(4, 1, 4, 5);
        b.does("drop 4 0", 5);
        b.worths(5, 4);
        b.asks("told 5 0", 4);
        b.asks("told 5 1", 1);

        b.sentence("BAD; STATE: it has just one; FULL.", "venture 1", "venture 4", "venture 2");
        b.refuses("drop 0 0", STATE);
        b.refusesAll(BAD, "drop 0 1", "drop 0 -1", "drop 1 4", "drop 1 -1", "drop 1 lowest",
                "drop 1 highest", "drop 2 2", "drop 3 0", "drop -1 0", "drop lowest 0",
                "drop highest 0");
        b.does("drop 2 1", 3);
        b.refuses("drop 3 0", STATE);
        b.desk(ten("venture 1"));
        b.refuses("drop 0 0", FULL);
        b.refuses("drop 9 0", STATE);
        b.refusesAll(BAD, "drop 9 1", "drop 0 2", "drop 10 0");
    }

    private static void join() {
        Bench b = BENCH;
        b.promise(9);
        b.sentence("A JOINED one in which two PARTNERS a below b are one, with a's number; those behind "
                + "b have numbers one less.", "venture 4");
        for (int set = 1; set < 16; set++) {
            b.does("set 0 " + set + " " + set, 1);
        }
        b.does("join 0 0 3", 1);
        b.worths(1, 9, 2, 11, 4, 13, 6, 15);
        b.does("join 0 0 1", 2);
        b.worths(2, 3, 4, 7, 8, 11, 12, 15);
        b.does("join 0 2 3", 3);
        b.worths(3, 1, 2, 3, 12, 13, 14, 15);
        b.does("join 3 0 1", 4);
        b.worths(4, 3, 12, 15);
        b.does("join 4 0 1", 5);
        b.worths(5, 15);
        b.asks("told 5 0", 4);
        b.asks("told 5 1", 1);

        b.sentence("BAD: also a not below b; FULL.", "venture 4", "venture 1", "venture 2");
        b.refusesAll(BAD, "join 0 0 0", "join 0 3 3", "join 0 1 0", "join 0 3 2", "join 0 0 4",
                "join 0 3 4", "join 0 -1 0", "join 0 -1 3", "join 0 -2 -1", "join 0 4 5",
                "join 0 0 highest", "join 0 lowest 0", "join 0 lowest highest", "join 1 0 0",
                "join 1 0 1", "join 2 0 2", "join 2 1 2", "join 3 0 1", "join -1 0 1",
                "join highest 0 1", "join lowest 0 1");
        b.does("join 2 0 1", 3);
        b.refuses("join 3 0 1", BAD);
        b.desk(ten("venture 1"));
        b.refuses("join 0 0 1", FULL);
        b.refusesAll(BAD, "join 0 1 0", "join 0 0 0", "join 0 0 2", "join 9 0 1", "join 10 0 1");
    }

    private static void other() {
        Bench b = BENCH;
        b.promise(10);
        b.sentence("A JOINED one that has for each SET the WORTH of ALL less that of all others.",
                "venture 1", "set 0 1 -100", "venture 2", "set 1 1 100", "set 1 2 -100",
                "set 1 3 -100");
        b.does("other 0", 2);
        b.worths(2, -100);
        b.does("other 1", 3);
        b.worths(3, 0, -200, -100);
        b.does("other 3", 4);
        b.worths(4, 100, -100, -100);
        b.asks("told 4 0", 4);
        b.asks("worth 4 0", 0);

        b.sentence("BAD; FULL.", "venture 1");
        b.refusesAll(BAD, "other 1", "other -1", "other highest", "other lowest");
        b.does("other 0", 1);
        b.desk(ten());
        b.refusesAll(FULL, "other 0", "other 9");
        b.refusesAll(BAD, "other 10", "other -1");
        // No bound of worths is named here: only sum() has one.
        b.desk("venture 2", "set 0 1 -100", "set 0 3 100", "sum 0 0 3 3", "sum 1 0 1 3",
                "sum 2 0 1 1");
        b.worths(3, -1000, 0, 1000);
        b.does("other 3", 4);
        b.worths(4, 1000, 2000, 1000);
        b.does("drop 4 0", 5);
        b.worths(5, 2000);
        b.does("join 4 0 1", 6);
        b.worths(6, 1000);
        b.refuses("sum 4 0 1 0", FULL);
    }

    private static void close() {
        Bench b = BENCH;
        b.promise(11);
        b.sentence("The VENTURE that came last goes: how many there are.", KINDS);
        b.does("write 4", 9);
        b.does("act 4 0 1", 3);
        for (int left = 4; left >= 0; left--) {
            b.asks("told " + left + " 1", 2);
            b.does("close", left);
            b.refuses("told " + left + " 1", BAD);
            b.asks("count 0", left);
        }
        b.asks("count 1", 9);
        b.asks("count 2", 2);
        b.does("venture 1", 0);
        b.worths(0, 0);
        b.desk(ten());
        b.does("close", 9);
        b.asks("told 8 1", 2);
        b.does("gloves 1 0", 9);
        b.refuses("gloves 1 0", FULL);

        b.sentence("STATE: there is none.");
        b.refuses("close", STATE);
        b.desk("venture 1");
        b.does("close", 0);
        b.refuses("close", STATE);
        b.does("venture 1", 0);
        b.does("close", 0);
        b.refuses("close", STATE);
    }

    public static void main(String[] args) {
        newObject();
        venture();
        set();
        votes();
        runway();
        gloves();
        sum();
        drop();
        join();
        other();
        close();
        BENCH.end();
    }
}
