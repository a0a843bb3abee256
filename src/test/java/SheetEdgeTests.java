/** The edges of promises 32 to 36: sheets, and ventures taken for one of a kind. */
public final class SheetEdgeTests {
    private static final int BAD = Bench.BAD, STATE = Bench.STATE, NOTHING = Bench.NOTHING;
    private static final int OUTSIDE = Bench.OUTSIDE, OTHER_SORT = Bench.OTHER_SORT;
    private static final int BELOW_ZERO = Bench.BELOW_ZERO;

    private static final Bench BENCH = new Bench();

    private static void sheet() {
        Bench b = BENCH;
        b.promise(32);
        b.sentence("A SHEET becomes a row of n of a sort, all 0, or missing (sort -1: n does not "
                + "matter): 1.", "venture 1");
        for (int sort = 0; sort < 3; sort++) {
            b.does("sheet " + sort + " " + sort + " 40", 1);
            b.does("cell " + sort + " 39 7", 1);
            b.refuses("cell " + sort + " 40 7", OUTSIDE);
            b.does("sheet " + sort + " " + sort + " 1", 1);
            b.does("set 0 1 5", 1);
            b.does("lay 0 " + sort + " " + sort + " 0", 1);
            b.asks("worth 0 1", 0);
            b.refuses("cell " + sort + " 1 7", OUTSIDE);
            b.does("sheet " + sort + " " + sort + " 0", 1);
            b.refuses("cell " + sort + " 0 7", OUTSIDE);
        }
        for (String n : new String[] {"0", "40", "41", "-1", "lowest", "highest"}) {
            b.desk("sheet 3 1 2");
            b.does("sheet 3 -1 " + n, 1);
            b.refuses("cell 3 0 1", NOTHING);
            b.does("sheet 3 -1 " + n, 1);
            b.refuses("cell 3 0 1", NOTHING);
        }
        // It becomes another sort, and none of its numbers stay.
        b.desk("venture 2", "sheet 0 0 3", "cell 0 2 9", "sheet 0 2 3");
        b.does("set 0 3 8", 1);
        b.refuses("lay 0 0 0 0", OTHER_SORT);
        b.does("lay 0 0 2 0", 1);
        b.worths(0, 0, 0, 0);

        b.sentence("BAD: no such SHEET, sort; n above 40; -14.", "sheet 0 1 2", "cell 0 1 9");
        b.refusesAll(BAD, "sheet 4 0 1", "sheet -1 0 1", "sheet lowest 0 1", "sheet highest 0 1",
                "sheet 4 -1 0", "sheet -1 -1 0", "sheet 0 3 1", "sheet 0 -2 1", "sheet 0 lowest 1",
                "sheet 0 highest 1", "sheet 0 0 41", "sheet 3 2 41", "sheet 0 0 highest");
        b.refusesAll(BELOW_ZERO, "sheet 0 0 -1", "sheet 0 1 lowest", "sheet 3 2 -1");
        b.refusesAll(BAD, "sheet 4 0 -1", "sheet -1 0 -1", "sheet 0 3 -1", "sheet 0 -2 -1",
                "sheet 4 0 41", "sheet 0 3 41");
        b.does("sheet 0 0 40", 1);
        b.does("sheet 0 0 0", 1);
    }

    private static void cell() {
        Bench b = BENCH;
        b.promise(33);
        b.sentence("Item i of a SHEET becomes v (of bytes its lowest 8 bits): 1.", "venture 1",
                "sheet 0 0 2", "sheet 1 1 1", "sheet 2 2 1");
        int[][] bytes = {{100, 100}, {-100, -100}, {255, -1}, {256, 0}, {257, 1}, {-256, 0},
            {-257, -1}, {156, -100}, {356, 100}, {-156, 100}};
        for (int[] pair : bytes) {
            b.does("cell 0 1 " + pair[0], 1);
            b.does("lay 0 0 0 1", 1);
            b.asks("worth 0 1", pair[1]);
        }
        b.does("cell 0 1 highest", 1);
        b.does("lay 0 0 0 1", 1);
        b.asks("worth 0 1", -1);
        b.does("cell 0 1 lowest", 1);
        b.does("lay 0 0 0 1", 1);
        b.asks("worth 0 1", 0);
        for (String beyond : new String[] {"101", "127", "128", "155", "-101"}) {
            b.does("cell 0 1 " + beyond, 1);
            b.refuses("lay 0 0 0 1", BAD);
        }
        // Ints and longs hold all of it.
        for (int sheet = 1; sheet < 3; sheet++) {
            for (String v : new String[] {"256", "-256", "lowest", "highest", "101", "-101"}) {
                b.does("cell " + sheet + " 0 " + v, 1);
                b.refuses("lay 0 " + sheet + " " + sheet + " 0", BAD);
            }
            b.does("cell " + sheet + " 0 -100", 1);
            b.does("lay 0 " + sheet + " " + sheet + " 0", 1);
            b.asks("worth 0 1", -100);
        }

        b.sentence("BAD: no such SHEET; -11; -12.", "sheet 0 0 2", "sheet 2 2 40", "sheet 3 1 0");
        b.does("cell 0 0 1", 1);
        b.does("cell 0 1 1", 1);
        b.does("cell 2 39 1", 1);
        b.refusesAll(BAD, "cell 4 0 1", "cell -1 0 1", "cell lowest 0 1", "cell highest 0 1",
                "cell 4 -1 1");
        b.refusesAll(NOTHING, "cell 1 0 1", "cell 1 -1 1", "cell 1 40 1", "cell 1 lowest 1",
                "cell 1 highest 1");
        b.refusesAll(OUTSIDE, "cell 0 2 1", "cell 0 -1 1", "cell 0 lowest 1", "cell 0 highest 1",
                "cell 2 40 1", "cell 2 -1 1", "cell 3 0 1");
    }

    private static void lay() {
        Bench b = BENCH;
        b.promise(34);
        b.sentence("WORTHS of a TOLD VENTURE by a SHEET that is taken for one of a sort, from item i "
                + "on: SETS 1, 2, .. ALL: 1.", "venture 1", "venture 4", "sheet 0 1 17");
        for (int i = 0; i < 17; i++) {
            b.does("cell 0 " + i + " " + (i - 8), 1);
        }
        b.does("lay 0 0 1 16", 1);
        b.worths(0, 8);
        b.does("lay 0 0 1 0", 1);
        b.worths(0, -8);
        b.does("lay 1 0 1 0", 1);
        b.worths(1, -8, -7, -6, -5, -4, -3, -2, -1, 0, 1, 2, 3, 4, 5, 6);
        b.does("lay 1 0 1 2", 1);
        b.worths(1, -6, -5, -4, -3, -2, -1, 0, 1, 2, 3, 4, 5, 6, 7, 8);
        b.refusesAll(OUTSIDE, "lay 1 0 1 3", "lay 0 0 1 17", "lay 0 0 1 -1", "lay 1 0 1 -1",
                "lay 1 0 1 lowest", "lay 1 0 1 highest", "lay 0 0 1 highest", "lay 0 0 1 lowest");
        // What is asked after it goes by the new worths.
        b.desk("venture 2", "sheet 0 2 3", "cell 0 2 7");
        b.asks("told 0 3", 1);
        b.does("lay 0 0 2 0", 1);
        b.asks("told 0 3", 2);
        b.asks("corner 0 1 0 0", 7);

        b.sentence("BAD: no such VENTURE, SHEET, sort; STATE: another KIND; -13; -11; -12;", "venture 2",
                "votes 2 22 2", "runway 2 53", "gloves 2 1", "other 0", "sheet 0 1 2", "sheet 1 0 3",
                "sheet 2 2 4");
        b.refusesAll(BAD, "lay 5 1 0 0", "lay -1 1 0 0", "lay lowest 1 0 0", "lay highest 1 0 0",
                "lay 0 4 0 0", "lay 0 -1 0 0", "lay 0 lowest 0 0", "lay 0 highest 0 0",
                "lay 0 1 3 0", "lay 0 1 -1 0", "lay 0 1 lowest 0", "lay 0 1 highest 0",
                "lay 0 3 -1 0");
        for (int venture = 1; venture < 5; venture++) {
            String lay = "lay " + venture + " ";
            b.refusesAll(STATE, lay + "1 0 0", lay + "1 1 0", lay + "3 0 0", lay + "0 1 9",
                    lay + "1 2 -1");
            b.refusesAll(BAD, lay + "4 0 0", lay + "-1 0 0", lay + "1 3 0", lay + "1 -1 0");
        }
        b.refusesAll(OTHER_SORT, "lay 0 0 0 0", "lay 0 0 2 0", "lay 0 1 1 0", "lay 0 1 2 0",
                "lay 0 2 0 0", "lay 0 2 1 0", "lay 0 0 0 -1", "lay 0 0 0 9", "lay 0 1 2 highest");
        b.refusesAll(NOTHING, "lay 0 3 0 0", "lay 0 3 1 0", "lay 0 3 2 0", "lay 0 3 0 -1",
                "lay 0 3 1 40", "lay 0 3 2 highest", "lay 0 3 2 lowest");
        b.refusesAll(OUTSIDE, "lay 0 0 1 0", "lay 0 1 0 1", "lay 0 1 0 -1", "lay 0 2 2 2");
        b.does("lay 0 1 0 0", 1);
        b.does("lay 0 2 2 0", 1);
        b.does("lay 0 2 2 1", 1);
        layBad();
    }

    private static void layBad() {
        Bench b = BENCH;
        b.sentence("BAD: an item is not -100 .. 100.", "venture 2", "set 0 1 5", "set 0 2 6", "set 0 3 7",
                "sheet 0 1 4");
        for (int i = 0; i < 3; i++) {
            b.does("cell 0 " + i + " 101", 1);
            b.refuses("lay 0 0 1 0", BAD);
            b.does("cell 0 " + i + " -101", 1);
            b.refuses("lay 0 0 1 0", BAD);
            b.does("cell 0 " + i + " highest", 1);
            b.refuses("lay 0 0 1 0", BAD);
            b.does("cell 0 " + i + " " + (i == 1 ? -100 : 100), 1);
        }
        b.worths(0, 5, 6, 7);
        b.does("cell 0 3 101", 1);
        // A place outside is named first, and items that are not laid do not matter.
        b.refuses("lay 0 0 1 1", BAD);
        b.refuses("lay 0 0 1 2", OUTSIDE);
        b.does("lay 0 0 1 0", 1);
        b.worths(0, 100, -100, 100);
        b.does("cell 0 0 lowest", 1);
        b.does("cell 0 3 -1", 1);
        b.does("lay 0 0 1 1", 1);
        b.worths(0, -100, 100, -1);
    }

    private static void copy() {
        Bench b = BENCH;
        String[] four = {"venture 4", "sheet 0 1 15", "cell 0 0 1", "cell 0 1 2", "cell 0 2 3",
            "cell 0 3 4"};
        b.promise(35);
        b.sentence("n items of a SHEET from i on come to another SHEET (or the same) from j on, as they "
                + "all were before: n.", four);
        b.does("copy 0 0 0 1 14", 14);
        b.does("lay 0 0 1 0", 1);
        b.worths(0, 1, 1, 2, 3, 4, 0, 0, 0, 0, 0, 0, 0, 0, 0, 0);
        b.does("copy 0 1 0 0 14", 14);
        b.does("lay 0 0 1 0", 1);
        b.worths(0, 1, 2, 3, 4, 0, 0, 0, 0, 0, 0, 0, 0, 0, 0, 0);
        b.does("copy 0 0 0 0 15", 15);
        b.does("copy 0 0 0 2 3", 3);
        b.does("lay 0 0 1 0", 1);
        b.worths(0, 1, 2, 1, 2, 3, 0, 0, 0, 0, 0, 0, 0, 0, 0, 0);
        b.desk(four);
        b.does("sheet 3 1 16", 1);
        b.does("copy 0 0 3 12 4", 4);
        b.does("lay 0 3 1 1", 1);
        b.worths(0, 0, 0, 0, 0, 0, 0, 0, 0, 0, 0, 0, 1, 2, 3, 4);
        b.does("lay 0 0 1 0", 1);
        b.worths(0, 1, 2, 3, 4, 0, 0, 0, 0, 0, 0, 0, 0, 0, 0, 0);
        b.asks("copy 0 0 3 0 0", 0);
        b.asks("copy 0 15 3 16 0", 0);
        // An item that is no worth is copied as well.
        b.desk("venture 1", "sheet 0 2 1", "sheet 1 2 1", "cell 0 0 500");
        b.does("copy 0 0 1 0 1", 1);
        b.refuses("lay 0 1 2 0", BAD);
        copyRefused();
    }

    private static void copyRefused() {
        Bench b = BENCH;
        b.sentence("BAD: no such SHEETS; -11; -13: they are not of one sort;", "sheet 0 1 2", "sheet 1 0 2",
                "sheet 2 2 2", "cell 0 0 7", "cell 1 0 8", "cell 2 0 9");
        b.refusesAll(BAD, "copy 4 0 0 0 1", "copy -1 0 0 0 1", "copy 0 0 4 0 1", "copy 0 0 -1 0 1",
                "copy lowest 0 0 0 1", "copy 0 0 highest 0 1", "copy 4 0 3 0 1", "copy 3 0 4 0 1",
                "copy 3 -1 -1 -1 -1");
        b.refusesAll(NOTHING, "copy 3 0 0 0 1", "copy 0 0 3 0 1", "copy 3 0 3 0 1",
                "copy 3 0 0 0 0", "copy 0 0 3 0 0", "copy 3 -1 0 0 1", "copy 0 0 3 0 -1",
                "copy 0 9 3 9 9", "copy 3 lowest 3 highest lowest");
        b.refusesAll(OTHER_SORT, "copy 0 0 1 0 1", "copy 1 0 0 0 1", "copy 0 0 2 0 1",
                "copy 2 0 0 0 1", "copy 1 0 2 0 1", "copy 2 0 1 0 1", "copy 0 0 1 0 0",
                "copy 0 -1 1 0 1", "copy 0 0 1 9 9", "copy 0 0 1 0 -1");

        b.sentence("-12: n, i or j is below 0, or beyond either's end.", "sheet 0 1 4", "sheet 1 1 2",
                "cell 0 0 7", "cell 0 3 9", "sheet 2 1 0");
        b.does("copy 0 2 1 0 2", 2);
        b.does("copy 0 3 1 1 1", 1);
        b.refusesAll(OUTSIDE, "copy 0 0 1 0 -1", "copy 0 -1 1 0 1", "copy 0 0 1 -1 1",
                "copy 0 0 1 0 3", "copy 0 0 1 1 2", "copy 0 3 1 0 2", "copy 0 4 1 0 1",
                "copy 0 0 1 2 1", "copy 1 0 0 0 3", "copy 1 1 0 0 2", "copy 1 0 0 3 2",
                "copy 0 0 0 1 4", "copy 0 1 0 0 4", "copy 0 5 1 0 0", "copy 0 0 1 3 0",
                "copy 0 -1 1 0 0", "copy 0 0 1 -1 0", "copy 0 0 1 0 lowest", "copy 0 0 1 0 highest",
                "copy 0 lowest 1 0 1", "copy 0 highest 1 0 1", "copy 0 0 1 lowest 1",
                "copy 0 0 1 highest 1", "copy 0 highest 1 highest highest",
                "copy 0 1 1 1 highest", "copy 2 0 2 0 1", "copy 2 1 2 0 0");
        b.asks("copy 0 4 1 2 0", 0);
        b.asks("copy 2 0 2 0 0", 0);
    }

    private static void taken() {
        Bench b = BENCH;
        String[] kinds = {"venture 1", "votes 2 22 2", "runway 3 53", "gloves 4 1", "other 2"};
        int[] sizes = {1, 2, 3, 4, 3};
        b.promise(36);
        b.sentence("A VENTURE taken for one of KIND k (0 .. 4; all are TOLD ones, too): its n.", kinds);
        for (int venture = 0; venture < 5; venture++) {
            b.asks("taken " + venture + " 0", sizes[venture]);
            b.asks("taken " + venture + " " + venture, sizes[venture]);
        }

        b.sentence("BAD: k; -11: no such VENTURE; -13.", kinds);
        b.refusesAll(BAD, "taken 0 5", "taken 0 -1", "taken 4 5", "taken 0 lowest",
                "taken 0 highest", "taken 5 5", "taken -1 -1", "taken 5 -1");
        b.refusesAll(NOTHING, "taken 5 0", "taken 5 4", "taken -1 0", "taken -1 4", "taken 10 1",
                "taken lowest 0", "taken highest 0");
        for (int venture = 0; venture < 5; venture++) {
            for (int k = 1; k < 5; k++) {
                if (k != venture) {
                    b.refuses("taken " + venture + " " + k, OTHER_SORT);
                }
            }
        }
        b.does("close", 4);
        b.refuses("taken 4 4", NOTHING);
    }

    public static void main(String[] args) {
        sheet();
        cell();
        lay();
        copy();
        taken();
        BENCH.end();
    }
}
