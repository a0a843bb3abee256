import java.util.ArrayList;
import java.util.Arrays;
import java.util.List;
import java.util.Random;

/**
 * Runs of drawn calls (always the same ones) on the class and on a plain model of the document.
 */
public final class ModelTests {
    private static final int RUNS = 400, CALLS = 512;
    private static final long NO = -4611686018427387904L;

    /** The calls, and a letter for the sort of each of their numbers. */
    private static final String[] CALL_LIST = {
        "venture n", "set v s w", "votes n W Q", "runway n N", "gloves n L", "sum v v t t",
        "drop v p", "join v p p", "other v", "close", "told v k", "worth v s", "adds v p s",
        "part v c p c", "lacks v c s c", "worst v c", "corner v C p c", "spread v p c c",
        "least v c", "bar v s c", "where v", "like v p p", "power v p c", "write v", "row r",
        "forge r l", "check v", "act v a x", "trace a", "count a", "sheet h o I", "cell h i w",
        "lay v h o i", "copy h i h i i", "taken v k"
    };

    private static int wrong = 0;
    private static final int[] ordinary = new int[CALL_LIST.length];

    public static void main(String[] args) {
        checkLeast();
        for (int run = 0; run < RUNS && wrong < 20; run++) {
            oneRun(run);
        }
        for (int i = 0; i < ordinary.length; i++) {
            if (ordinary[i] < 100) {
                wrong++;
                System.out.println("too few ordinary answers of " + CALL_LIST[i]);
            }
        }
        System.out.println(wrong == 0 ? "class and model agree" : wrong + " differences");
        if (wrong != 0) {
            System.exit(1);
        }
    }

    private static void oneRun(int run) {
        Random random = new Random(run);
        JointWorks desk = new JointWorks();
        Model model = new Model();
        int spread = new int[] {1, 3, 10, 100}[run % 4];
        List<String> queue = new ArrayList<>();
        List<Object[]> queueArgs = new ArrayList<>();
        StringBuilder story = new StringBuilder();
        for (int call = 0; call < CALLS; call++) {
            int which = pick(random, call, model.ventures.size());
            String[] words = CALL_LIST[which].split(" ");
            Object[] values = new Object[words.length - 1];
            if (queue.isEmpty()) {
                for (int i = 0; i < values.length; i++) {
                    values[i] = draw(random, words[i + 1].charAt(0), model, spread);
                }
            } else {
                words[0] = queue.remove(0);
                values = queueArgs.remove(0);
            }
            long got = Calls.answer(desk, words[0], values);
            long want = Calls.answer(model, words[0], values);
            story.append(words[0]).append(Arrays.toString(values)).append(' ');
            if (got != want) {
                wrong++;
                System.out.println("run " + run + ": " + story + "answered " + got
                        + ", the model says " + want);
                return;
            }
            for (int i = 0; i < CALL_LIST.length; i++) {
                if (CALL_LIST[i].split(" ")[0].equals(words[0]) && isOrdinary(got)) {
                    ordinary[i]++;
                }
            }
            if (words[0].equals("venture") && got >= 0) {
                tellAll(random, (int) got, model, spread, queue, queueArgs);
            }
        }
    }

    /** Queues calls that tell all worths of a new venture, most of them growing with the set. */
    private static void tellAll(Random random, int venture, Model model, int spread,
            List<String> queue, List<Object[]> queueArgs) {
        int all = model.ventures.get(venture).all();
        int growth = random.nextInt(3) * random.nextInt(3);
        for (int set = 1; set <= all; set++) {
            int size = Integer.bitCount(set);
            int v = growth * size * size / 2 + random.nextInt(2 * spread + 1) - spread / 2;
            queue.add("set");
            queueArgs.add(new Object[] {venture, set, Math.max(-100, Math.min(100, v))});
        }
    }

    /** A new desk gets ventures first, and a crowded one loses some: others could not come. */
    private static int pick(Random random, int call, int ventures) {
        if (call < 4) {
            return random.nextInt(5) == 0 ? 2 + random.nextInt(3) : 0;
        }
        if (ventures >= 9 && random.nextInt(3) == 0) {
            return Arrays.asList(CALL_LIST).indexOf("close");
        }
        return random.nextInt(CALL_LIST.length);
    }

    private static boolean isOrdinary(long answer) {
        return answer != NO && (answer >= 0 || answer < -14);
    }

    private static Object draw(Random random, char sort, Model model, int spread) {
        if (sort == 'l') {
            return random.nextInt(3) == 0 ? random.nextLong() : (long) random.nextInt(9) - 4;
        }
        if (random.nextInt(60) == 0) {
            return new int[] {Integer.MIN_VALUE, Integer.MAX_VALUE, -1, 31, 32, 64, 1 << 30}[
                    random.nextInt(7)];
        }
        int count = model.ventures.size();
        switch (sort) {
            case 'n': return random.nextInt(12) == 0 ? random.nextInt(7) - 1
                    : 1 + Math.min(3, random.nextInt(6));
            case 'v': return random.nextInt(20) == 0 ? random.nextInt(13) - 1
                    : random.nextInt(Math.max(1, count));
            case 's': return random.nextInt(3) == 0 ? random.nextInt(18) - 1 : random.nextInt(8);
            case 'w': return random.nextInt(20) == 0 ? random.nextInt(700) - 350
                    : random.nextInt(2 * spread + 1) - spread / 2;
            case 'W': return random.nextInt(6) == 0 ? random.nextInt(200000)
                    : random.nextInt(1 << random.nextInt(18));
            case 'Q': return random.nextInt(10) == 0 ? random.nextInt(85) - 2
                    : 1 + random.nextInt(30);
            case 'N': return random.nextInt(6) == 0 ? random.nextInt(7000000)
                    : random.nextInt(1 << random.nextInt(23));
            case 'L': return random.nextInt(random.nextBoolean() ? 17 : 4);
            case 't': return random.nextInt(12) == 0 ? random.nextInt(11) - 5
                    : random.nextInt(7) - 3;
            case 'p': return random.nextInt(8) == 0 ? random.nextInt(7) - 1 : random.nextInt(3);
            case 'k': return random.nextInt(9) - 1;
            case 'c': return random.nextInt(12) == 0 ? random.nextInt(5) - 1 : random.nextInt(2);
            case 'C': return random.nextInt(random.nextBoolean() ? 26 : 4) - random.nextInt(2);
            case 'r': return random.nextInt(random.nextBoolean() ? 28 : 4) - random.nextInt(2);
            case 'a': return random.nextInt(10) == 0 ? random.nextInt(9) - 2 : random.nextInt(3);
            case 'x': return random.nextBoolean() ? random.nextInt() : random.nextInt(20) - 10;
            case 'h': return random.nextInt(15) == 0 ? random.nextInt(7) - 1 : random.nextInt(2);
            case 'o': return random.nextInt(8) == 0 ? random.nextInt(6) - 2 : random.nextInt(2);
            case 'I': return random.nextInt(10) == 0 ? random.nextInt(60) - 10
                    : 20 + random.nextInt(21);
            case 'i': return random.nextInt(8) == 0 ? random.nextInt(60) - 10
                    : random.nextInt(20);
            default: throw new IllegalStateException("no sort " + sort);
        }
    }

    /** LEAST by its other reading: taken off, it leaves a core that has a part, and no less does. */
    private static void checkLeast() {
        Random random = new Random(7);
        for (int i = 0; i < 120; i++) {
            Model.Venture v = new Model.Venture(0, 2 + i % 3);
            for (int set = 1; set <= v.all(); set++) {
                v.worths[set] = Model.Q.of(random.nextInt(i % 2 == 0 ? 5 : 60) - 2);
            }
            Model.Q least = v.lean().least;
            boolean some = !v.lessened(least).corners().isEmpty();
            boolean none = v.lessened(least.minus(new Model.Q(1, 1000))).corners().isEmpty();
            if (!some || !none) {
                wrong++;
                System.out.println("the model's LEAST is not the least: " + i);
            }
        }
    }
}
