import java.util.ArrayList;
import java.util.Arrays;
import java.util.List;

/**
 * Each call with every choice of numbers at and beyond its edges, on several desks, against the
 * model: which refusal comes first wherever two or more would do, and that none changes anything.
 */
public final class GridTests {
    private static final int LOW = Integer.MIN_VALUE, HIGH = Integer.MAX_VALUE;
    private static final int MOST_CALLS = 200;

    private static final int[] PARTNER = {LOW, -1, 0, 1, 2, 3, 4, 32, HIGH};
    private static final int[] SET = {LOW, -1, 0, 1, 2, 3, 4, 7, 8, 15, 16, HIGH};
    private static final int[] SIZE = {LOW, -1, 0, 1, 2, 3, 4, 5, HIGH};
    private static final int[] VENTURE = {LOW, -1, 0, 1, 2, 3, 4, 5, 9, 10, HIGH};
    private static final int[] WAY = {LOW, -1, 0, 1, 2, HIGH};
    private static final int[] TIMES = {LOW, -4, -3, 0, 3, 4, HIGH};
    private static final int[] WORTH = {LOW, -101, -100, 0, 100, 101, HIGH};
    private static final int[] KIND = {LOW, -1, 0, 1, 2, 3, 4, 5, 6, 7, HIGH};
    private static final int[] ROW = {LOW, -1, 0, 1, 2, 3, 8, 9, 14, 15, 24, 25, HIGH};
    private static final int[] ACT = {LOW, -1, 0, 1, 2, 3, HIGH};
    private static final int[] NUMBER = {LOW, LOW + 1, -1, 0, 1, 1 << 30, HIGH - 1, HIGH};
    private static final int[] SHEET = {LOW, -1, 0, 1, 2, 3, 4, HIGH};
    private static final int[] SORT = {LOW, -2, -1, 0, 1, 2, 3, HIGH};
    private static final int[] PLACE = {LOW, -1, 0, 1, 2, 3, 4, 5, 40, HIGH};
    private static final int[] MANY = {LOW, -1, 0, 1, 4, 40, 41, HIGH};
    private static final int[] WEIGHTS = {LOW, -1, 0, 20, 21, 22, 440, 441, 9260, 9261, 194480,
        194481, HIGH};
    private static final int[] QUOTA = {LOW, -1, 0, 1, 2, 80, 81, HIGH};
    private static final int[] NEEDS = {LOW, -1, 0, 50, 51, 53, 2600, 2601, 132650, 132651, 6765200,
        6765201, HIGH};

    private static final List<String[]> DESKS = List.of(
        new String[] {},
        new String[] {"venture 2", "set 0 1 1", "set 0 2 2", "set 0 3 4", "votes 2 22 2",
            "runway 2 53", "gloves 2 1", "other 0", "sheet 0 1 4", "cell 0 1 6", "cell 0 2 7",
            "cell 0 3 101", "sheet 1 0 3", "cell 1 2 9", "sheet 2 1 2", "write 0", "act 4 2 3"},
        new String[] {"venture 1", "set 0 1 -7", "venture 4", "set 1 3 1", "set 1 5 1", "set 1 6 1",
            "set 1 15 3", "votes 3 464 2", "gloves 4 6", "runway 1 50", "sheet 0 2 40",
            "sheet 3 2 0", "cell 0 0 500", "write 1", "act 0 1 9"},
        new String[] {"venture 2", "set 0 2 100", "sum 0 0 3 3", "sum 1 0 1 3", "sum 2 0 1 1",
            "venture 1", "votes 2 22 1", "venture 3", "set 6 7 9", "runway 2 53", "gloves 2 1",
            "venture 2", "write 6"});

    private static int wrong = 0;
    private static int grids = 0;
    private static JointWorks desk;
    private static Model model;
    private static int calls;

    private static void build(String[] made) {
        desk = new JointWorks();
        model = new Model();
        calls = 0;
        for (String call : made) {
            both(call);
        }
    }

    private static long both(String call) {
        calls++;
        long got = Calls.answer(desk, call);
        long want = Calls.answer(model, call);
        if (got != want) {
            wrong++;
            System.out.println(call + " answered " + got + ", the model says " + want);
        }
        return got;
    }

    /** Whether a call may have changed the desk. */
    private static boolean changes(String name, long answer) {
        return name.equals("act") || answer >= 0 && isMaker(name);
    }

    private static boolean isMaker(String name) {
        return Arrays.asList("venture", "set", "votes", "runway", "gloves", "sum", "drop", "join",
                "other", "close", "write", "forge", "sheet", "cell", "lay", "copy").contains(name);
    }

    private static void grid(String name, int[]... numbers) {
        List<String> choices = new ArrayList<>(List.of(name));
        for (int[] values : numbers) {
            List<String> longer = new ArrayList<>();
            for (String choice : choices) {
                for (int value : values) {
                    longer.add(choice + " " + value);
                }
            }
            choices = longer;
        }
        for (String[] made : DESKS) {
            build(made);
            for (String call : choices) {
                if (calls >= MOST_CALLS) {
                    compare();
                    build(made);
                }
                if (changes(name, both(call))) {
                    compare();
                    build(made);
                }
            }
            compare();
        }
        grids++;
    }

    /** All that can be seen of the desk; looking at sheets changes it, so that comes last. */
    private static void compare() {
        compareVentures();
        for (int i = 0; i < desk.count(1); i++) {
            both("row " + i);
        }
        for (int i = 0; i < desk.count(2); i++) {
            both("trace " + i);
        }
        if (desk.count(0) == 10) {
            both("close");
        }
        int last = (int) both("venture 1");
        for (int sheet = 0; sheet < 4; sheet++) {
            for (int sort = 0; sort < 3; sort++) {
                for (int i = 0; i < 5; i++) {
                    both("lay " + last + " " + sheet + " " + sort + " " + i);
                    both("worth " + last + " 1");
                }
            }
        }
    }

    private static void compareVentures() {
        for (int what = 0; what < 3; what++) {
            both("count " + what);
        }
        int count = desk.count(0);
        for (int venture = 0; venture < count; venture++) {
            both("told " + venture + " 0");
            for (int set = 0; set < 1 << desk.told(venture, 1); set++) {
                both("worth " + venture + " " + set);
            }
        }
    }

    private static void makingGrids() {
        grid("venture", SIZE);
        grid("set", VENTURE, SET, WORTH);
        grid("votes", SIZE, WEIGHTS, QUOTA);
        grid("runway", SIZE, NEEDS);
        grid("gloves", SIZE, SET);
        grid("sum", VENTURE, VENTURE, TIMES, TIMES);
        grid("drop", VENTURE, PARTNER);
        grid("join", VENTURE, PARTNER, PARTNER);
        grid("other", VENTURE);
        grid("close");
    }

    private static void askingGrids() {
        grid("told", VENTURE, KIND);
        grid("worth", VENTURE, SET);
        grid("adds", VENTURE, PARTNER, SET);
        grid("part", VENTURE, WAY, PARTNER, WAY);
        grid("lacks", VENTURE, WAY, SET, WAY);
        grid("worst", VENTURE, WAY);
        grid("corner", VENTURE, PLACE, PARTNER, WAY);
        grid("spread", VENTURE, PARTNER, WAY, WAY);
        grid("least", VENTURE, WAY);
        grid("bar", VENTURE, SET, WAY);
        grid("where", VENTURE);
        grid("like", VENTURE, PARTNER, PARTNER);
        grid("power", VENTURE, PARTNER, WAY);
    }

    private static void otherGrids() {
        grid("write", VENTURE);
        grid("row", ROW);
        grid("forge", ROW, NUMBER);
        grid("check", VENTURE);
        grid("act", VENTURE, ACT, NUMBER);
        grid("trace", ROW);
        grid("count", ACT);
        grid("sheet", SHEET, SORT, MANY);
        grid("cell", SHEET, PLACE, NUMBER);
        grid("lay", VENTURE, SHEET, SORT, PLACE);
        grid("copy", SHEET, PLACE, SHEET, PLACE, PLACE);
        grid("taken", VENTURE, KIND);
    }

    public static void main(String[] args) {
        makingGrids();
        askingGrids();
        otherGrids();
        System.out.println(wrong == 0 ? grids + " calls hold at their edges"
                : wrong + " answers are not as due");
        if (wrong != 0 || grids != 35) {
            System.exit(1);
        }
    }
}
