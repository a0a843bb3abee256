import java.io.IOException;
import java.lang.reflect.Method;
import java.lang.reflect.Modifier;
import java.nio.file.Files;
import java.nio.file.Path;
import java.util.HashMap;
import java.util.Map;
import java.util.regex.Matcher;
import java.util.regex.Pattern;

/** README.md tells true answers of its calls, and names every call of the class. */
public final class ReadmeTests {
    private static final Path README = Path.of("README.md");
    private static final Pattern EXAMPLE = Pattern.compile(
            "^(?:int (\\w+) = )?desk\\.(\\w+)\\(([^)]*)\\); +// (-?\\d+):.*$");

    private static int wrong = 0;

    private static void due(boolean holds, String what) {
        if (!holds) {
            wrong++;
            System.out.println("not so: " + what);
        }
    }

    private static String javaBlock(String text) {
        String mark = "```java\n";
        int from = text.indexOf(mark);
        int to = from < 0 ? -1 : text.indexOf("```", from + mark.length());
        due(to >= 0, "README.md has a block of Java");
        return to < 0 ? "" : text.substring(from + mark.length(), to);
    }

    /** A call as Calls takes it, with the numbers that names stand for. */
    private static String told(String name, String numbers, Map<String, Long> names) {
        StringBuilder call = new StringBuilder(name);
        for (String word : numbers.isEmpty() ? new String[0] : numbers.split(", ")) {
            call.append(' ').append(names.containsKey(word) ? names.get(word).toString() : word);
        }
        return call.toString();
    }

    private static void checkExamples(String block) {
        JointWorks desk = new JointWorks();
        Map<String, Long> names = new HashMap<>();
        for (String line : block.split("\n")) {
            Matcher m = EXAMPLE.matcher(line);
            if (!m.matches()) {
                boolean isOther = line.isEmpty() || line.startsWith("// ")
                        || line.equals("JointWorks desk = new JointWorks();");
                due(isOther, "a call with its answer: " + line);
                continue;
            }
            long got = Calls.answer(desk, told(m.group(2), m.group(3), names));
            due(got == Long.parseLong(m.group(4)), line + " (answered " + got + ")");
            if (m.group(1) != null) {
                names.put(m.group(1), got);
            }
        }
    }

    private static void checkNames(String text) {
        for (Method method : JointWorks.class.getDeclaredMethods()) {
            if (Modifier.isPublic(method.getModifiers())) {
                due(text.contains("`" + method.getName() + "`"), "README.md names " + method);
            }
        }
    }

    public static void main(String[] args) throws IOException {
        String text = Files.readString(README);
        checkExamples(javaBlock(text));
        checkNames(text);
        System.out.println(wrong == 0 ? "README.md holds" : wrong + " places of README.md do not hold");
        if (wrong != 0) {
            System.exit(1);
        }
    }
}
