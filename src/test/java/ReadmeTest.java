import java.io.IOException;
import java.lang.reflect.Method;
import java.lang.reflect.Modifier;
import java.nio.file.Files;
import java.nio.file.Path;
import java.util.ArrayList;
import java.util.Arrays;
import java.util.List;
import java.util.TreeSet;
import java.util.regex.Matcher;
import java.util.regex.Pattern;

/** README.md, held to the class: its example's answers, its calls, what its table of steps says. */
public final class ReadmeTest extends Programs {
    private static final Check CHECK = new Check("ReadmeTest");
    private static final Pattern EXAMPLE = Pattern.compile("x\\.(\\w+)\\((.*?)\\); +// (?:step )?(-?\\d+): .*");
    private static final Pattern CALL = Pattern.compile("\\| `(\\w+)\\((.*?)\\)` \\|.*");
    private static final Pattern CODE = Pattern.compile("\\| \\d+ \\|(.*\\|){5}");
    private static final int[] TRIED = {
        Integer.MIN_VALUE, -2, -1, 0, 1, 2, 3, 4, 5, 6, 9, 10, 11, 12, 31, 32, 33, Integer.MAX_VALUE,
    };

    public static void main(String[] args) throws IOException, ReflectiveOperationException {
        List<String> lines = Files.readAllLines(Path.of("README.md"));
        followExample(lines);
        compareCalls(lines);
        compareCodes(lines);
        CHECK.end();
    }

    private static void followExample(List<String> lines) throws ReflectiveOperationException {
        NullKinds x = new NullKinds();
        int followed = 0;
        for (String line : lines) {
            Matcher m = EXAMPLE.matcher(line);
            if (m.matches()) {
                long got = call(x, m.group(1), numbers(m.group(2)));
                CHECK.due("in README.md, " + line, got, Long.parseLong(m.group(3)));
                followed++;
            } else if (line.startsWith("x.")) {
                CHECK.holds("has an answer in README.md: " + line, false);
            }
        }
        CHECK.holds("README.md has an example of fifteen calls", followed == 15);
    }

    private static int[] numbers(String text) {
        return Arrays.stream(text.split("[, ]+")).filter(part -> !part.isEmpty()).mapToInt(Integer::parseInt).toArray();
    }

    private static long call(NullKinds x, String name, int[] given) throws ReflectiveOperationException {
        Class<?>[] types = new Class<?>[given.length];
        Object[] values = new Object[given.length];
        for (int i = 0; i < given.length; i++) {
            types[i] = int.class;
            values[i] = given[i];
        }
        return ((Number) NullKinds.class.getMethod(name, types).invoke(x, values)).longValue();
    }

    private static void compareCalls(List<String> lines) {
        TreeSet<String> told = new TreeSet<>();
        for (String line : lines) {
            Matcher m = CALL.matcher(line);
            if (m.matches()) {
                int count = m.group(2).isEmpty() ? 0 : m.group(2).split(",").length;
                told.add(m.group(1) + " of " + count);
            }
        }
        TreeSet<String> due = new TreeSet<>();
        for (Method m : NullKinds.class.getDeclaredMethods()) {
            if (Modifier.isPublic(m.getModifiers())) {
                due.add(m.getName() + " of " + m.getParameterCount());
            }
        }
        CHECK.holds("README.md tells the calls " + due + ", it has " + told, due.equals(told));
    }

    private static void compareCodes(List<String> lines) {
        int code = 0;
        for (String line : lines) {
            if (CODE.matcher(line).matches()) {
                List<String> cells = new ArrayList<>();
                for (String cell : line.substring(1).split("\\|")) {
                    cells.add(cell.trim());
                }
                CHECK.due("the code in README.md, " + line, Integer.parseInt(cells.get(0)), code);
                compareBounds(code, cells);
                compareFaults(code, cells);
                code++;
            }
        }
        CHECK.due("codes in README.md", code, 24);
    }

    private static void compareBounds(int code, List<String> cells) {
        for (int place = 0; place < 3; place++) {
            String name = cells.get(1 + place);
            for (int value : TRIED) {
                int[] step = inBounds(code, cells);
                step[1 + place] = value;
                int due = fits(name, value) ? 0 : -2;
                CHECK.due("step" + Arrays.toString(step) + " by README.md", add(new NullKinds(), step), due);
            }
        }
    }

    private static int[] inBounds(int code, List<String> cells) {
        int[] step = s(code);
        for (int place = 0; place < 3; place++) {
            step[1 + place] = lowest(cells.get(1 + place));
        }
        return step;
    }

    private static int lowest(String name) {
        return name.equals("K") ? 1 : name.equals("A") ? 5 : 0;
    }

    private static int highest(String name) {
        switch (name) {
            case "V": return 5;
            case "N": return 3;
            case "S": return 32;
            case "K": return 4;
            case "A": return 9;
            case "T": return 10;
            default: throw new IllegalStateException("README.md does not tell of " + name);
        }
    }

    private static boolean fits(String name, int value) {
        return name.isEmpty() || value >= lowest(name) && value <= highest(name);
    }

    /** The faults of the code, for all pairs of kinds that V(0) and V(1) may be, and all types. */
    private static void compareFaults(int code, List<String> cells) {
        int[] step = inBounds(code, cells);
        int types = cells.get(2).equals("T") ? 11 : 1;
        if (cells.get(2).equals("V")) {
            step[2] = 1;
        }
        int found = 0;
        for (int pair = 0; pair < 100; pair++) {
            for (int type = 0; type < types; type++) {
                step[2] = types > 1 ? type : step[2];
                found |= program(get(0, pair / 10), get(1, pair % 10), step).faults(2);
            }
        }
        int told = cells.size() > 5 ? bits(numbers(cells.get(5))) : 0;
        CHECK.due("faults of code " + code + " by README.md", found, told);
    }
}
