import java.io.IOException;
import java.lang.reflect.Field;
import java.lang.reflect.Method;
import java.lang.reflect.Modifier;
import java.nio.file.Files;
import java.nio.file.Path;
import java.util.ArrayList;
import java.util.HashMap;
import java.util.HashSet;
import java.util.List;
import java.util.Map;
import java.util.Set;
import java.util.TreeMap;
import java.util.regex.Matcher;
import java.util.regex.Pattern;

/** The rules of LANGUAGE.md that can be counted in the source or seen in its classes. */
public final class LanguageTest {
    private static final Check CHECK = new Check("LanguageTest");
    private static final Set<Class<?>> STATIC_TYPES = Set.of(
            int.class, long.class, boolean.class, char.class, String.class,
            int[].class, long[].class, char[].class, byte[].class);
    private static final Pattern BARRED = Pattern.compile(
            "\\b(package|finally|synchronized|assert|protected|volatile|\\w+Exact|getMessage|getClass|hashCode"
            + "|Thread|Object|System\\.(?!arraycopy))\\b|try \\(|->|::");
    private static final Pattern HEAD = Pattern.compile(
            "(?:    ){1,2}(?:(?:public|private|static) )*(?:[\\w\\[\\]]+ )?(\\w+)\\([^;=]*\\)(?: throws \\w+)? \\{");
    private static final Pattern CALL = Pattern.compile("(?:(\\w+)\\.)?(\\w+)\\(");
    private static final Pattern NESTED = Pattern.compile("    private static final class (\\w+) \\{");

    /** A method's class and name: its lines, and the calls in them. */
    private static final Map<String, List<String>> METHODS = new TreeMap<>();

    public static void main(String[] args) throws IOException {
        List<String> lines = Files.readAllLines(Path.of("src/main/java/NullKinds.java"));
        List<Class<?>> classes = new ArrayList<>(List.of(NullKinds.class.getDeclaredClasses()));
        CHECK.holds("rule 11: some twelve classes", classes.size() + 1 <= 12);
        for (Class<?> inside : classes) {
            int modifiers = inside.getModifiers();
            CHECK.holds("rule 1: static, and private or package-visible, " + inside, Modifier.isStatic(modifiers)
                    && !Modifier.isPublic(modifiers) && !Modifier.isProtected(modifiers));
        }
        classes.add(NullKinds.class);
        for (Class<?> each : classes) {
            checkFields(each);
            checkMethods(each);
        }
        checkLines(lines);
        readMethods(lines);
        checkLengths();
        checkDepths();
        CHECK.end();
    }

    private static void checkFields(Class<?> each) {
        int own = 0;
        for (Field f : each.getDeclaredFields()) {
            if (Modifier.isStatic(f.getModifiers())) {
                CHECK.holds("rule 5: final, " + f, Modifier.isFinal(f.getModifiers()));
                CHECK.holds("rule 5: of a type for constants, " + f, STATIC_TYPES.contains(f.getType()));
            } else {
                own++;
            }
        }
        CHECK.holds("rule 11: some twenty fields of " + each, own <= 20);
    }

    private static void checkMethods(Class<?> each) {
        Set<String> face = new HashSet<>();
        for (Method m : NullKinds.class.getDeclaredMethods()) {
            if (Modifier.isPublic(m.getModifiers())) {
                face.add(m.getName());
            }
        }
        for (Method m : each.getDeclaredMethods()) {
            CHECK.holds("rule 11: seven parameters, " + m, m.getParameterCount() <= 7);
            boolean hidden = Modifier.isPrivate(m.getModifiers());
            CHECK.holds("rule 1: a name of its own, " + m, !hidden || !face.contains(m.getName()));
        }
    }

    private static void checkLines(List<String> lines) {
        for (String line : lines) {
            CHECK.holds("rules 2 to 6: " + line, !BARRED.matcher(withoutWords(line)).find());
            CHECK.holds("rule 4: " + line, !line.startsWith("import ") || line.equals("import java.util.Arrays;"));
            CHECK.holds("rule 3: characters 0 to 255, " + line, line.chars().allMatch(c -> c < 256));
        }
    }

    /** Texts and comments may have any words. */
    private static String withoutWords(String line) {
        String code = line.replaceAll("\"[^\"]*\"", "\"\"").replaceAll("//.*", "");
        return code.trim().startsWith("*") || code.trim().startsWith("/*") ? "" : code;
    }

    private static void readMethods(List<String> lines) {
        String inside = "NullKinds";
        List<String> body = null;
        String end = "";
        for (String line : lines) {
            Matcher nested = NESTED.matcher(line);
            Matcher head = HEAD.matcher(line);
            if (nested.matches()) {
                inside = nested.group(1);
            } else if (body == null && head.matches()) {
                body = new ArrayList<>();
                end = line.substring(0, line.length() - line.stripLeading().length()) + "}";
                METHODS.put(inside + "." + head.group(1), body);
            } else if (line.equals(end)) {
                body = null;
            } else if (body != null) {
                body.add(withoutWords(line));
            }
        }
    }

    private static void checkLengths() {
        int found = 0;
        for (Class<?> each : NullKinds.class.getDeclaredClasses()) {
            found += each.getDeclaredMethods().length;
        }
        found += NullKinds.class.getDeclaredMethods().length;
        // Constructors that are written out: of NullKinds, Machine and Outlook.
        CHECK.due("methods that were read", METHODS.size(), found + 3);
        for (Map.Entry<String, List<String>> m : METHODS.entrySet()) {
            CHECK.holds("rule 11: some sixty lines, " + m.getKey(), m.getValue().size() <= 60);
        }
    }

    private static void checkDepths() {
        Map<String, Integer> known = new HashMap<>();
        for (String method : METHODS.keySet()) {
            CHECK.holds("rule 11: eight calls deep at most, " + method, depth(method, known, 1) <= 8);
        }
    }

    /** The calls that stand open at once in a method, it among them. */
    private static int depth(String method, Map<String, Integer> known, int level) {
        if (known.containsKey(method)) {
            return known.get(method);
        }
        if (level > 100) {
            return level;
        }
        int deepest = 0;
        for (String line : METHODS.get(method)) {
            Matcher m = CALL.matcher(line);
            while (m.find()) {
                String called = calledFrom(method, m.group(1), m.group(2));
                if (called != null) {
                    deepest = Math.max(deepest, depth(called, known, level + 1));
                }
            }
        }
        known.put(method, deepest + 1);
        return deepest + 1;
    }

    private static String calledFrom(String method, String qualifier, String name) {
        String inside = method.substring(0, method.indexOf('.'));
        if (qualifier != null) {
            inside = Character.toUpperCase(qualifier.charAt(0)) + qualifier.substring(1);
        } else if (!METHODS.containsKey(inside + "." + name)) {
            inside = METHODS.containsKey(name + "." + name) ? name : "NullKinds";
        }
        String called = inside + "." + name;
        return METHODS.containsKey(called) ? called : null;
    }
}
