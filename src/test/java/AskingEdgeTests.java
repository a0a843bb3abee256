/** The edges of promises 12 to 24: what is asked of ventures. */
public final class AskingEdgeTests {
    private static final int NONE = Bench.NONE, BAD = Bench.BAD, STATE = Bench.STATE;
    private static final long NO = Bench.NO;

    /** One venture of two partners of each kind, TOLD first. */
    private static final String[] KINDS = {
        "venture 2", "set 0 1 1", "set 0 2 2", "set 0 3 4", "votes 2 22 2", "runway 2 53",
        "gloves 2 1", "other 0"
    };

    /** Ventures of 1 to 4 partners, by their places. */
    private static final String[] SIZES = {"venture 1", "venture 2", "venture 3", "venture 4"};

    private static final Bench BENCH = new Bench();

    /** A venture whose sets have 0, 1, 4, 9 by their sizes: each order of coming has a corner. */
    private static final String[] SQUARES = {
        "venture 4", "set 0 3 1", "set 0 5 1", "set 0 6 1", "set 0 9 1", "set 0 10 1", "set 0 12 1",
        "set 0 7 4", "set 0 11 4", "set 0 13 4", "set 0 14 4", "set 0 15 9"
    };

    private static void told() {
        Bench b = BENCH;
        b.promise(12);
        b.sentence("0 KIND, 1 n,", KINDS);
        for (int venture = 0; venture < 5; venture++) {
            b.asks("told " + venture + " 0", venture);
            b.asks("told " + venture + " 1", 2);
        }

        b.sentence("2 whether the CORE has a PART (1, 0), 3 CORNERS,", SQUARES);
        b.asks("told 0 2", 1);
        b.asks("told 0 3", 24);
        b.does("set 0 15 5", 1);
        b.asks("told 0 2", 0);
        b.asks("told 0 3", 0);
        b.desk(SIZES);
        for (int venture = 0; venture < 4; venture++) {
            b.asks("told " + venture + " 2", 1);
            b.asks("told " + venture + " 3", 1);
        }

        b.sentence("4 CONVEX, 5 bits of DUMMIES,", SIZES);
        for (int venture = 0; venture < 4; venture++) {
            b.asks("told " + venture + " 4", 1);
            b.asks("told " + venture + " 5", (2 << venture) - 1);
        }
        b.does("set 3 15 1", 1);
        b.asks("told 3 4", 1);
        b.asks("told 3 5", 0);
        b.does("set 3 15 -1", 1);
        b.asks("told 3 4", 0);
        b.asks("told 3 5", 0);

        b.sentence("6 how many PARTNERS can make ALL's WORTH the less by coming (ADD less than 0 to the "
                + "SET of all others).", SIZES);
        for (int venture = 0; venture < 4; venture++) {
            b.asks("told " + venture + " 6", 0);
            b.does("set " + venture + " " + ((2 << venture) - 1) + " -1", 1);
            b.asks("told " + venture + " 6", venture + 1);
        }
        b.desk("venture 2", "set 0 1 1");
        b.asks("told 0 6", 1);
        b.does("set 0 3 1", 1);
        b.asks("told 0 6", 0);
        // Less than 0 to another set does not count.
        b.desk("venture 3", "set 0 1 5", "set 0 3 -5", "set 0 7 9");
        b.asks("told 0 6", 0);

        b.sentence("BAD.", KINDS);
        for (int venture = 0; venture < 5; venture++) {
            b.refusesAll(BAD, "told " + venture + " -1", "told " + venture + " 7",
                    "told " + venture + " lowest", "told " + venture + " highest");
        }
        b.refusesAll(BAD, "told 5 0", "told -1 0", "told 10 6", "told highest 0", "told lowest 0");
    }

    private static void worth() {
        Bench b = BENCH;
        b.promise(13);
        b.sentence("WORTH of a SET (0 .. ALL). NO: no such.", SIZES);
        for (int venture = 0; venture < 4; venture++) {
            int all = (2 << venture) - 1;
            b.does("set " + venture + " " + all + " -100", 1);
            b.asks("worth " + venture + " 0", 0);
            b.asks("worth " + venture + " " + all, -100);
            b.refusesAll(NO, "worth " + venture + " -1", "worth " + venture + " " + (all + 1),
                    "worth " + venture + " lowest", "worth " + venture + " highest");
        }
        b.refusesAll(NO, "worth 4 0", "worth -1 0", "worth highest 0", "worth lowest 0");
    }

    private static void adds() {
        Bench b = BENCH;
        b.promise(14);
        b.sentence("What a PARTNER ADDS to a SET without it. NO: no such, it is in it.", SIZES);
        for (int venture = 0; venture < 4; venture++) {
            int last = 1 << venture;
            int all = 2 * last - 1;
            String adds = "adds " + venture + " " + venture + " ";
            b.does("set " + venture + " " + last + " 7", 1);
            b.does("set " + venture + " " + all + " -5", 1);
            b.asks(adds + "0", venture == 0 ? -5 : 7);
            b.asks(adds + (all - last), -5);
            b.refusesAll(NO, adds + last, adds + all, adds + (all + 1), adds + "-1",
                    adds + "lowest", adds + "highest");
            b.refusesAll(NO, "adds " + venture + " " + (venture + 1) + " 0",
                    "adds " + venture + " -1 0", "adds " + venture + " 32 0",
                    "adds " + venture + " lowest 0", "adds " + venture + " highest 0");
        }
        b.refusesAll(NO, "adds 4 0 0", "adds -1 0 0", "adds highest 0 0", "adds lowest 0 0",
                "adds 1 0 4", "adds 2 0 8", "adds 3 0 16", "adds 3 0 -2", "adds 0 0 2");
    }

    private static void part() {
        Bench b = BENCH;
        b.promise(15);
        b.sentence("TURNS (way 0), EQUAL (1) of a PARTNER: what 0, 1. NO: no such.", SIZES);
        for (int venture = 0; venture < 4; venture++) {
            int all = (2 << venture) - 1;
            b.does("set " + venture + " " + all + " -1", 1);
            for (int way = 0; way < 2; way++) {
                String part = "part " + venture + " " + way + " ";
                b.asksFraction(part + "0", -1, venture + 1);
                b.asksFraction(part + venture, -1, venture + 1);
                b.refusesAll(NO, part + (venture + 1) + " 0", part + "-1 0", part + "lowest 0",
                        part + "highest 1", part + "0 lowest", part + "0 highest");
            }
            b.refusesAll(NO, "part " + venture + " -1 0 0", "part " + venture + " 2 0 0",
                    "part " + venture + " lowest 0 0", "part " + venture + " highest 0 1");
        }
        b.refusesAll(NO, "part 4 0 0 0", "part -1 0 0 0", "part highest 1 0 1",
                "part lowest 0 0 0");
        b.desk("venture 4", "set 0 14 1");
        b.asksFraction("part 0 0 0", -1, 4);
        b.asksFraction("part 0 0 3", 1, 12);
        b.asksFraction("part 0 1 0", 0, 1);
    }

    private static void lacks() {
        Bench b = BENCH;
        b.promise(16);
        b.sentence("What TURNS (way 0), EQUAL (1) LACKS for a SET (not empty, not ALL): what 0, 1. "
                + "NO: no such.", SIZES);
        for (int venture = 0; venture < 4; venture++) {
            int all = (2 << venture) - 1;
            b.does("set " + venture + " " + all + " 1", 1);
            for (int way = 0; way < 2; way++) {
                String lacks = "lacks " + venture + " " + way + " ";
                if (venture > 0) {
                    b.asksFraction(lacks + "1", -1, venture + 1);
                    b.asksFraction(lacks + (all - 1), -venture, venture + 1);
                }
                b.refusesAll(NO, lacks + "0 0", lacks + all + " 0", lacks + (all + 1) + " 0",
                        lacks + "-1 0", lacks + "lowest 0", lacks + "highest 1",
                        lacks + "1 lowest", lacks + "1 highest");
            }
            b.refusesAll(NO, "lacks " + venture + " -1 1 0", "lacks " + venture + " 2 1 0",
                    "lacks " + venture + " lowest 1 0", "lacks " + venture + " highest 1 1");
        }
        b.refusesAll(NO, "lacks 4 0 1 0", "lacks -1 0 1 0", "lacks highest 0 1 0",
                "lacks lowest 0 1 0");
    }

    private static void worst() {
        Bench b = BENCH;
        b.promise(17);
        b.sentence("The SET for which TURNS, EQUAL lacks most, of like ones the least.", SIZES);
        b.asks("worst 1 0", 1);
        b.asks("worst 2 1", 1);
        b.asks("worst 3 0", 1);
        b.does("set 3 14 1", 1);
        b.asks("worst 3 0", 14);
        b.asks("worst 3 1", 14);
        b.does("set 3 13 1", 1);
        b.asks("worst 3 0", 13);
        b.asks("worst 3 1", 13);
        // All lack less than 0, the last one the least.
        b.desk("venture 2", "set 0 1 -4", "set 0 2 -4", "set 0 3 2");
        b.asks("worst 0 0", 1);
        b.desk("venture 3", "set 0 1 -9", "set 0 2 -9", "set 0 4 -9", "set 0 3 -9", "set 0 5 -9",
                "set 0 6 -8", "set 0 7 9");
        b.asks("worst 0 1", 1);
        b.asks("lacks 0 1 1 0", -12);
        // The two ways differ.
        b.desk("venture 3", "set 0 1 7", "set 0 2 6", "set 0 3 3", "set 0 4 1", "set 0 5 7",
                "set 0 7 6");
        b.asks("worst 0 0", 2);
        b.asks("worst 0 1", 5);

        b.sentence("NONE: there is none such SET (n 1).", "venture 1", "set 0 1 5", "venture 2");
        b.asks("worst 0 0", NONE);
        b.asks("worst 0 1", NONE);
        b.asks("worst 1 0", 1);

        b.sentence("BAD.", SIZES);
        for (int venture = 0; venture < 4; venture++) {
            b.refusesAll(BAD, "worst " + venture + " -1", "worst " + venture + " 2",
                    "worst " + venture + " lowest", "worst " + venture + " highest");
        }
        b.refusesAll(BAD, "worst 4 0", "worst -1 0", "worst highest 1", "worst lowest 0");
    }

    private static void corner() {
        Bench b = BENCH;
        b.promise(18);
        b.sentence("CORNER i of the CORE, what a PARTNER gets: what 0, 1. NO: no such.", SQUARES);
        int[] least = {0, 1, 3, 5};
        for (int partner = 0; partner < 4; partner++) {
            b.asksFraction("corner 0 0 " + partner, least[partner], 1);
            b.asksFraction("corner 0 23 " + partner, least[3 - partner], 1);
        }
        b.asks("corner 0 1 2 0", 5);
        b.asks("corner 0 1 3 0", 3);
        b.asks("corner 0 5 3 0", 1);
        b.asks("corner 0 6 0 0", 1);
        b.refusesAll(NO, "corner 0 24 0 0", "corner 0 -1 0 0", "corner 0 -1 3 0",
                "corner 0 lowest 0 0", "corner 0 highest 0 0", "corner 0 0 4 0", "corner 0 0 -1 0",
                "corner 0 1 -1 0", "corner 0 23 4 1", "corner 0 0 lowest 0", "corner 0 0 highest 0",
                "corner 0 0 0 lowest", "corner 0 0 0 highest", "corner 1 0 0 0", "corner -1 0 0 0",
                "corner highest 0 0 0", "corner lowest 0 0 0");
        b.does("set 0 15 5", 1);
        b.refuses("corner 0 0 0 0", NO);
        b.refuses("corner 0 0 0 1", NO);
        b.desk(SIZES);
        for (int venture = 0; venture < 4; venture++) {
            String corner = "corner " + venture + " ";
            b.asksFraction(corner + "0 " + venture, 0, 1);
            b.refusesAll(NO, corner + "1 0 0", corner + "0 " + (venture + 1) + " 0");
        }
        // Where the three pairs of 0, 1, 2 get just 1 each, the three get a half each.
        b.desk("venture 4", "set 0 3 1", "set 0 5 1", "set 0 6 1", "set 0 8 1", "set 0 15 3",
                "set 0 7 1", "set 0 11 2", "set 0 13 2", "set 0 14 2");
        b.asks("told 0 3", 4);
        b.asksFraction("corner 0 0 0", 0, 1);
        b.asksFraction("corner 0 1 0", 1, 2);
        b.asksFraction("corner 0 1 3", 3, 2);
        b.asksFraction("corner 0 2 1", 0, 1);
        b.asksFraction("corner 0 3 2", 0, 1);
    }

    private static void spread() {
        Bench b = BENCH;
        b.promise(19);
        b.sentence("The least (way 0), greatest (1) that a PARTNER gets in the CORE: what 0, 1.", SQUARES);
        for (int partner = 0; partner < 4; partner++) {
            b.asksFraction("spread 0 " + partner + " 0", 0, 1);
            b.asksFraction("spread 0 " + partner + " 1", 5, 1);
        }
        b.desk("venture 2", "set 0 1 -3", "set 0 2 4", "set 0 3 2");
        b.asksFraction("spread 0 0 0", -3, 1);
        b.asksFraction("spread 0 0 1", -2, 1);
        b.asksFraction("spread 0 1 0", 4, 1);
        b.asksFraction("spread 0 1 1", 5, 1);
    }

    private static void spreadRefused() {
        Bench b = BENCH;
        b.sentence("NO: no such, the CORE has no PART.", SQUARES);
        b.refusesAll(NO, "spread 0 4 0 0", "spread 0 -1 0 0", "spread 0 lowest 0 0",
                "spread 0 highest 0 0", "spread 0 0 2 0", "spread 0 0 -1 0", "spread 0 0 lowest 0",
                "spread 0 0 highest 0", "spread 0 0 0 2", "spread 0 0 0 -1", "spread 0 0 1 lowest",
                "spread 0 0 1 highest", "spread 1 0 0 0", "spread -1 0 0 0", "spread highest 0 0 0",
                "spread lowest 0 0 0");
        b.desk("venture 2", "set 0 1 3", "set 0 2 4", "set 0 3 7");
        b.asksFraction("spread 0 0 0", 3, 1);
        b.asksFraction("spread 0 0 1", 3, 1);
        b.does("set 0 3 6", 1);
        b.refusesAll(NO, "spread 0 0 0 0", "spread 0 0 0 1", "spread 0 1 1 0", "spread 0 1 1 1");
        b.desk(SIZES);
        for (int venture = 0; venture < 4; venture++) {
            b.asksFraction("spread " + venture + " " + venture + " 1", 0, 1);
            b.refuses("spread " + venture + " " + (venture + 1) + " 1 0", NO);
        }
    }

    private static void least() {
        Bench b = BENCH;
        b.promise(20);
        b.sentence("LEAST: what 0, 1. NO: no such, n is 1.", SIZES);
        b.refusesAll(NO, "least 0 0", "least 0 1", "least 0 2", "least 0 -1");
        for (int venture = 1; venture < 4; venture++) {
            b.asksFraction("least " + venture, 0, 1);
            b.does("set " + venture + " " + ((2 << venture) - 1) + " 1", 1);
            b.asksFraction("least " + venture, -1, venture + 1);
            b.refusesAll(NO, "least " + venture + " lowest", "least " + venture + " highest");
        }
        b.refusesAll(NO, "least 4 0", "least -1 0", "least highest 0", "least lowest 1");
    }

    private static void bar() {
        Bench b = BENCH;
        b.promise(21);
        b.sentence("The weight of a SET in THE BAR: what 0, 1. NO: no such (also the empty one, ALL), "
                + "n is 1.", SIZES);
        b.refusesAll(NO, "bar 0 0 0", "bar 0 1 0", "bar 0 1 1", "bar 0 2 0", "bar 0 -1 0");
        for (int venture = 1; venture < 4; venture++) {
            int all = (2 << venture) - 1;
            String bar = "bar " + venture + " ";
            b.asksFraction(bar + "1", 1, 1);
            b.asksFraction(bar + (all - 1), venture == 1 ? 1 : 0, 1);
            b.refusesAll(NO, bar + "0 0", bar + "0 1", bar + all + " 0", bar + all + " 1",
                    bar + (all + 1) + " 0", bar + "-1 0", bar + "lowest 0", bar + "highest 0",
                    bar + "1 lowest", bar + "1 highest");
        }
        b.refusesAll(NO, "bar 4 1 0", "bar -1 1 0", "bar highest 1 0", "bar lowest 1 0");
        b.desk("venture 4", "set 0 7 1", "set 0 9 1", "set 0 10 1", "set 0 12 1", "set 0 15 1");
        for (int set = 1; set < 15; set++) {
            boolean isPair = set == 9 || set == 10 || set == 12;
            b.asksFraction("bar 0 " + set, set == 7 ? 2 : isPair ? 1 : 0,
                    set == 7 || isPair ? 3 : 1);
        }
    }

    private static void where() {
        Bench b = BENCH;
        b.promise(22);
        b.sentence("the first (by PARTNER, then the lesser one, then the greater one) that show that a "
                + "VENTURE is not CONVEX.", "venture 3", "set 0 1 1");
        b.asks("where 0", 2);
        b.does("set 0 3 1", 1);
        b.asks("where 0", 4);
        b.does("set 0 5 1", 1);
        b.asks("where 0", 6);
        b.does("set 0 7 1", 1);
        b.asks("where 0", NONE);
        b.does("set 0 7 0", 1);
        b.asks("where 0", 6);
        b.does("set 0 7 1", 1);
        b.does("set 0 6 1", 1);
        b.asks("where 0", 6);
        b.desk("venture 3", "set 0 3 1");
        b.asks("where 0", 16 * 2 + 6);
        b.desk("venture 3", "set 0 2 1", "set 0 3 1", "set 0 4 1", "set 0 5 1", "set 0 6 1",
                "set 0 7 1");
        b.asks("where 0", 256 + 4);
        b.desk("venture 4", "set 0 7 1", "set 0 11 1", "set 0 15 1");
        b.asks("where 0", 256 * 2 + 16 * 3 + 11);

        b.sentence("NONE: it is.", SIZES);
        for (int venture = 0; venture < 4; venture++) {
            b.asks("where " + venture, NONE);
        }
        b.does("set 0 1 -100", 1);
        b.asks("where 0", NONE);

        b.sentence("BAD.", SIZES);
        b.refusesAll(BAD, "where 4", "where -1", "where lowest", "where highest");
        b.does("close", 3);
        b.refuses("where 3", BAD);
    }

    private static void like() {
        Bench b = BENCH;
        b.promise(23);
        b.sentence("Whether two PARTNERS are LIKE: 1, 0.", SIZES);
        b.asks("like 1 0 1", 1);
        b.asks("like 1 1 0", 1);
        b.asks("like 3 0 3", 1);
        b.asks("like 3 3 0", 1);
        b.does("set 3 8 1", 1);
        b.asks("like 3 0 3", 0);
        b.asks("like 3 3 2", 0);
        b.asks("like 3 1 2", 1);
        b.does("set 3 8 0", 1);
        b.does("set 3 14 1", 1);
        b.asks("like 3 0 3", 0);
        b.asks("like 3 2 3", 1);

        b.sentence("BAD: also a = b.", SIZES);
        for (int venture = 0; venture < 4; venture++) {
            String like = "like " + venture + " ";
            b.refusesAll(BAD, like + "0 0", like + venture + " " + venture,
                    like + "0 " + (venture + 1), like + (venture + 1) + " 0", like + "-1 0",
                    like + "0 -1", like + "lowest 0", like + "0 lowest", like + "highest 0",
                    like + "0 highest");
        }
        b.refusesAll(BAD, "like 4 0 1", "like -1 0 1", "like highest 0 1", "like lowest 0 1",
                "like 3 -1 -1", "like 3 4 4", "like 3 -1 4");
    }

    private static void power() {
        Bench b = BENCH;
        b.promise(24);
        b.sentence("Of VOTES: in how many SETS (way 0), orders of coming (1) a PARTNER SWINGS (orders: "
                + "the SET of those ahead).", "votes 4 9724 4", "votes 4 9724 1", "votes 4 9724 2",
                "votes 4 9727 4", "votes 4 9724 5", "votes 1 1 1", "votes 1 0 1");
        int[][] sets = {{1, 1, 1, 1}, {1, 1, 1, 1}, {3, 3, 3, 3}, {8, 0, 0, 0}, {0, 0, 0, 0}, {1},
            {0}};
        int[][] orders = {{6, 6, 6, 6}, {6, 6, 6, 6}, {6, 6, 6, 6}, {24, 0, 0, 0}, {0, 0, 0, 0},
            {1}, {0}};
        for (int venture = 0; venture < sets.length; venture++) {
            for (int partner = 0; partner < sets[venture].length; partner++) {
                b.asks("power " + venture + " " + partner + " 0", sets[venture][partner]);
                b.asks("power " + venture + " " + partner + " 1", orders[venture][partner]);
            }
        }

        b.sentence("BAD; STATE: another KIND.", KINDS);
        b.asks("power 1 1 0", 1);
        b.refusesAll(BAD, "power 1 2 0", "power 1 -1 0", "power 1 lowest 0", "power 1 highest 0",
                "power 1 0 -1", "power 1 0 2", "power 1 0 lowest", "power 1 0 highest",
                "power 5 0 0", "power -1 0 0", "power highest 0 0", "power lowest 0 0");
        for (int venture = 0; venture < 5; venture++) {
            String power = "power " + venture + " ";
            if (venture != 1) {
                b.refusesAll(STATE, power + "0 0", power + "1 1");
                b.refusesAll(BAD, power + "2 0", power + "-1 1", power + "0 2", power + "1 -1");
            }
        }
        // One that is made of VOTES is JOINED.
        b.desk("votes 2 22 2", "sum 0 0 1 0", "drop 0 0");
        b.refusesAll(STATE, "power 1 0 0", "power 2 0 1");
    }

    public static void main(String[] args) {
        told();
        worth();
        adds();
        part();
        lacks();
        worst();
        corner();
        spread();
        spreadRefused();
        least();
        bar();
        where();
        like();
        power();
        BENCH.end();
    }
}
