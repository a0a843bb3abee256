import java.io.IOException;
import java.lang.reflect.Constructor;
import java.lang.reflect.Field;
import java.lang.reflect.Method;
import java.lang.reflect.Modifier;
import java.nio.file.Files;
import java.nio.file.Path;
import java.util.TreeSet;
import java.util.regex.Matcher;
import java.util.regex.Pattern;

/** The face is the document's, and the source keeps to those rules of LANGUAGE.md that a text shows. */
public final class RulesTests {
    private static final Path SOURCE = Path.of("src/main/java/JointWorks.java");
    private static final Path DOCUMENT = Path.of("../shared/DOC.md");
    private static final int MOST_CLASSES = 12, MOST_FIELDS = 20, MOST_LINES = 60, MOST_PARAMETERS = 7;

    private static int wrong = 0;

    private static void due(boolean holds, String what) {
        if (!holds) {
            wrong++;
            System.out.println("not so: " + what);
        }
    }

    /** The document's methods, as "int set(int,int,int)". */
    private static TreeSet<String> documentFace() throws IOException {
        String text = Files.readString(DOCUMENT);
        int from = text.indexOf("public final class JointWorks {");
        String face = text.substring(from, text.indexOf("```", from));
        TreeSet<String> found = new TreeSet<>();
        Matcher m = Pattern.compile("public (int|long) (\\w+)\\(([^)]*)\\);").matcher(face);
        while (m.find()) {
            String types = m.group(3).replaceAll("(int|long) \\w+", "$1").replace(" ", "");
            found.add(m.group(1) + " " + m.group(2) + "(" + types + ")");
        }
        return found;
    }

    private static TreeSet<String> classFace() {
        TreeSet<String> found = new TreeSet<>();
        for (Method method : JointWorks.class.getDeclaredMethods()) {
            if (Modifier.isPrivate(method.getModifiers())) {
                continue;
            }
            due(Modifier.isPublic(method.getModifiers()), method + " is public or private");
            StringBuilder types = new StringBuilder();
            for (Class<?> type : method.getParameterTypes()) {
                types.append(types.length() == 0 ? "" : ",").append(type.getName());
            }
            found.add(method.getReturnType() + " " + method.getName() + "(" + types + ")");
        }
        return found;
    }

    private static void checkFace() throws IOException {
        TreeSet<String> document = documentFace();
        TreeSet<String> program = classFace();
        due(document.size() == 35, "the document has 35 methods");
        due(document.equals(program), "the face is the document's: " + program);
        int modifiers = JointWorks.class.getModifiers();
        due(Modifier.isPublic(modifiers) && Modifier.isFinal(modifiers), "public and final");
        Constructor<?>[] constructors = JointWorks.class.getDeclaredConstructors();
        due(constructors.length == 1 && Modifier.isPublic(constructors[0].getModifiers())
                && constructors[0].getParameterCount() == 0, "one public constructor");
        TreeSet<String> constants = new TreeSet<>();
        for (Field field : JointWorks.class.getDeclaredFields()) {
            if (!Modifier.isPrivate(field.getModifiers())) {
                constants.add(field.getName());
            }
        }
        due(constants.toString().equals("[BAD, FULL, NO, NONE, STATE]"), "the constants");
    }

    private static void checkClass(Class<?> type, TreeSet<String> faceNames) {
        int fields = 0;
        for (Field field : type.getDeclaredFields()) {
            boolean isStatic = Modifier.isStatic(field.getModifiers());
            fields += isStatic ? 0 : 1;
            due(!isStatic || Modifier.isFinal(field.getModifiers()), field + " is final");
        }
        due(fields <= MOST_FIELDS, type + " has few fields");
        for (Method method : type.getDeclaredMethods()) {
            due(method.getParameterCount() <= MOST_PARAMETERS, method + " has few parameters");
            boolean isFace = type == JointWorks.class && Modifier.isPublic(method.getModifiers());
            due(isFace || !faceNames.contains(method.getName()), method + " has a name of its own");
        }
    }

    private static void checkClasses() {
        TreeSet<String> faceNames = new TreeSet<>();
        for (String signature : classFace()) {
            faceNames.add(signature.replaceAll(".* (\\w+)\\(.*", "$1"));
        }
        Class<?>[] inside = JointWorks.class.getDeclaredClasses();
        due(inside.length + 1 <= MOST_CLASSES, "few classes");
        checkClass(JointWorks.class, faceNames);
        for (Class<?> type : inside) {
            int modifiers = type.getModifiers();
            due(Modifier.isStatic(modifiers), type + " is static");
            due(!Modifier.isPublic(modifiers) && !Modifier.isProtected(modifiers),
                    type + " is private or package-visible");
            checkClass(type, faceNames);
        }
    }

    private static void checkText() throws IOException {
        String text = Files.readString(SOURCE);
        due(text.chars().allMatch(c -> c == '\n' || c >= 32 && c < 127), "plain signs");
        String code = text.replaceAll("(?s)/\\*.*?\\*/", "").replaceAll("//[^\n]*", "");
        String[] words = {"throw", "throws", "try", "catch", "finally", "synchronized", "assert",
            "import", "package", "protected", "volatile", "native", "double", "float", "hashCode",
            "toString", "System\\.(?!arraycopy)\\w+", "Thread", "Object", "\\w+Exact"};
        for (String word : words) {
            due(!Pattern.compile("\\b" + word + "\\b").matcher(code).find(), "no " + word);
        }
        for (String sign : new String[] {"->", "::", "@", "\""}) {
            due(!code.contains(sign), "no " + sign);
        }
        checkLengths(text);
    }

    /** By indents: a method begins with a line that ends in ") {" and ends with its bracket. */
    private static void checkLengths(String text) {
        String[] lines = text.split("\n");
        for (int i = 0; i < lines.length; i++) {
            Matcher m = Pattern.compile("^(    |        )\\w.*[^;]\\{$").matcher(lines[i]);
            if (!m.find() || lines[i].contains(" class ")) {
                continue;
            }
            int end = i;
            while (end < lines.length && !lines[end].equals(m.group(1) + "}")) {
                end++;
            }
            due(end - i < MOST_LINES, "short: " + lines[i]);
        }
    }

    public static void main(String[] args) throws IOException {
        checkFace();
        checkClasses();
        checkText();
        System.out.println(wrong == 0 ? "the rules are kept" : wrong + " rules are not kept");
        if (wrong != 0) {
            System.exit(1);
        }
    }
}
