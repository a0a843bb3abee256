import java.io.IOException;
import java.io.UncheckedIOException;
import java.nio.file.Files;
import java.nio.file.Path;
import java.util.ArrayList;
import java.util.List;
import java.util.regex.Matcher;
import java.util.regex.Pattern;

/**
 * What the tests of edges stand on. Each test begins with a sentence of the document, which must
 * stand there word for word. A call that is refused, or only asks, is made on a desk of its own
 * too: that one must then be as a desk on which the call was never made.
 */
final class Bench {
    static final int NONE = -1, BAD = -2, STATE = -3, FULL = -4;
    static final int NOTHING = -11, OUTSIDE = -12, OTHER_SORT = -13, BELOW_ZERO = -14;
    static final long NO = -4611686018427387904L;
    static final int LOWEST = Integer.MIN_VALUE, HIGHEST = Integer.MAX_VALUE;

    private static final Path DOCUMENT = Path.of("../shared/DOC.md");
    private static final Pattern REFUSAL = Pattern.compile("\\b(BAD|STATE|FULL|NO|NONE)\\b|-1[1-4]");
    private static final int MOST_CALLS = 512, SHEETS = 4, SORTS = 3, MOST_ITEMS = 40;
    private static final int MOST_ROWS = 25, MOST_KEPT = 40;

    private final String document;
    private final List<String> script;
    private String chapter;
    private String unquoted;
    private String sentence;
    private JointWorks desk;
    private int calls;
    private int tests;
    private int wrong;

    Bench() {
        try {
            document = plain(Files.readString(DOCUMENT));
        } catch (IOException e) {
            throw new UncheckedIOException(e);
        }
        script = new ArrayList<>();
        chapter = "";
        unquoted = "";
    }

    private static String plain(String text) {
        return text.replaceAll("\\s+", " ");
    }

    /** From here on sentences are of the words between two marks of the document. */
    void chapter(String from, String to) {
        endChapter();
        int start = document.indexOf(from);
        int end = document.indexOf(to, start + 1);
        if (start < 0 || end < 0) {
            fail("the document has no " + from + " .. " + to);
            return;
        }
        chapter = document.substring(start, end);
        unquoted = chapter;
    }

    void promise(int number) {
        chapter("## Promise " + number + ":",
                number == 36 ? "## Not promised" : "## Promise " + (number + 1) + ":");
    }

    /** Each refusal that a chapter names must stand in a sentence that has a test. */
    private void endChapter() {
        Matcher left = REFUSAL.matcher(unquoted);
        if (left.find()) {
            fail("no test quotes: " + unquoted);
        }
        unquoted = "";
    }

    /** A test of a sentence, on a new desk on which some calls have been made. */
    void sentence(String words, String... made) {
        sentence = words;
        tests++;
        if (!chapter.contains(plain(words))) {
            fail("is not in the document here");
        }
        unquoted = unquoted.replace(plain(words), "..");
        desk(made);
    }

    /** Another desk for the same sentence. */
    void desk(String... made) {
        desk = new JointWorks();
        calls = 0;
        script.clear();
        for (String call : made) {
            long got = make(call);
            script.add(call);
            if (got < 0) {
                fail(call + " was refused with " + got);
            }
        }
    }

    /** A call that changes the desk. */
    void does(String call, long want) {
        due(call, make(call), want);
        script.add(call);
    }

    /** A call that leaves the desk as it is. */
    void asks(String call, long want) {
        due(call, make(call), want);
        JointWorks asked = again();
        Calls.answer(asked, call);
        if (!stateOf(asked, script.size() + 1).equals(stateOf(again(), script.size()))) {
            fail(call + " changed something");
        }
    }

    void refuses(String call, long want) {
        if (want >= 0) {
            fail(call + " is due to answer " + want + ", which is no refusal");
        }
        asks(call, want);
    }

    /** Refuses each of some calls alike. */
    void refusesAll(long want, String... refused) {
        for (String call : refused) {
            refuses(call, want);
        }
    }

    /** Both numbers of a fraction: the call without its last number. */
    void asksFraction(String call, long above, long below) {
        asks(call + " 0", above);
        asks(call + " 1", below);
        refuses(call + " -1", NO);
        refuses(call + " 2", NO);
    }

    void same(String name, long got, long want) {
        due(name, got, want);
    }

    /** All worths, from the one of the set 1 on to that of ALL. */
    void worths(int venture, int... want) {
        for (int i = 0; i < want.length; i++) {
            String call = "worth " + venture + " " + (i + 1);
            due(call, make(call), want[i]);
        }
        String beyond = "worth " + venture + " " + (want.length + 1);
        due(beyond, make(beyond), NO);
    }

    /** All bodies of the trace. */
    void traces(int... want) {
        due("count 2", make("count 2"), want.length);
        for (int i = 0; i < want.length; i++) {
            due("trace " + i, make("trace " + i), want[i]);
        }
        due("trace " + want.length, make("trace " + want.length), NONE);
    }

    private long make(String call) {
        calls++;
        if (calls > MOST_CALLS) {
            fail("the test makes too many calls");
        }
        return Calls.answer(desk, call);
    }

    private void due(String call, long got, long want) {
        if (got != want) {
            fail(call + " answered " + got + ", due is " + want + ", after " + script);
        }
    }

    private JointWorks again() {
        JointWorks made = new JointWorks();
        for (String call : script) {
            Calls.answer(made, call);
        }
        return made;
    }

    /** All that can be seen of a desk; looking at sheets changes it, so that comes last. */
    private List<Long> stateOf(JointWorks x, int made) {
        List<Long> seen = new ArrayList<>();
        for (int what = 0; what < 3; what++) {
            seen.add((long) x.count(what));
        }
        for (int venture = 0; venture < x.count(0); venture++) {
            seen.add((long) x.told(venture, 0));
            seen.add((long) x.told(venture, 3));
            for (int set = 1; set < 1 << x.told(venture, 1); set++) {
                seen.add(x.worth(venture, set));
            }
        }
        for (int i = 0; i < Math.min(MOST_ROWS, x.count(1)); i++) {
            seen.add(x.row(i));
        }
        for (int i = 0; i < Math.min(MOST_KEPT, x.count(2)); i++) {
            seen.add((long) x.trace(i));
        }
        int looks = seen.size() + 4 * x.count(0) + 4;
        if (x.venture(1) == FULL) {
            x.close();
            x.venture(1);
        }
        for (int sheet = 0; sheet < SHEETS; sheet++) {
            addSheet(x, sheet, seen);
        }
        looks += seen.size();
        if (made + looks > MOST_CALLS) {
            fail("looking at the desk takes too many calls: " + (made + looks));
        }
        return seen;
    }

    private static void addSheet(JointWorks x, int sheet, List<Long> seen) {
        int last = x.count(0) - 1;
        int sort = 0;
        while (sort < SORTS - 1 && x.lay(last, sheet, sort, 0) == OTHER_SORT) {
            sort++;
        }
        seen.add((long) sort);
        for (int i = 0; i <= MOST_ITEMS; i++) {
            long laid = x.lay(last, sheet, sort, i);
            seen.add(laid);
            if (laid == OUTSIDE || laid == NOTHING) {
                return;
            }
            seen.add(x.worth(last, 1));
        }
    }

    private void fail(String what) {
        wrong++;
        System.out.println(sentence + "\n    " + what);
    }

    /** Tells how the tests went, and ends with exit code 1 if one failed. */
    void end() {
        endChapter();
        System.out.println(wrong == 0 ? tests + " sentences hold" : wrong + " answers are not as due");
        if (wrong != 0) {
            System.exit(1);
        }
    }
}
