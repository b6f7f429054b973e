import java.io.IOException;
import java.lang.reflect.Method;
import java.lang.reflect.Modifier;
import java.nio.file.Files;
import java.nio.file.Path;
import java.util.List;
import java.util.Set;
import java.util.TreeSet;
import java.util.regex.Matcher;
import java.util.regex.Pattern;

/** README.md, read from the project's directory: its example, its table of kinds and its table of calls hold. */
public final class ReadmeTest {
    /** A call of the example, its answer and, where it is told, what fault() is then. */
    private static final Pattern EXAMPLE =
            Pattern.compile("dock\\.(\\w+)\\(([^)]*)\\);\\s*// (-?\\d+)(?:, and fault\\(\\) is (-?\\d+))?.*");
    private static final Pattern KIND = Pattern.compile("\\| (\\d+) \\| [^|]+ \\| ([\\d, ]+) \\|.*");
    private static final Pattern CALL = Pattern.compile("`(\\w+)\\(([^)]*)\\)`");

    public static void main(String[] args) throws IOException, ReflectiveOperationException {
        Dues dues = new Dues();
        List<String> lines = Files.readAllLines(Path.of("README.md"));
        exampleAnswersAsItSays(dues, lines);
        kindsFitTheGatesThatItTells(dues, lines);
        callsAreTheFaces(dues, lines);
        dues.end();
    }

    private static void exampleAnswersAsItSays(Dues dues, List<String> lines) throws ReflectiveOperationException {
        dues.of("README.md: the example");
        DockGates dock = new DockGates();
        int calls = 0;
        for (String line : lines) {
            Matcher example = EXAMPLE.matcher(line);
            if (line.startsWith("dock.")) {
                calls++;
                dues.due("a line with a call and its answer: " + line, example.matches() ? 1 : 0, 1);
            }
            if (example.matches()) {
                dues.due(line, answer(dock, example.group(1), example.group(2)), Long.parseLong(example.group(3)));
                // What the example tells no fault of has none; told() leaves it as it was.
                if (example.group(4) != null || !example.group(1).equals("told")) {
                    int fault = example.group(4) == null ? 0 : Integer.parseInt(example.group(4));
                    dues.due("fault() after " + line, dock.fault(), fault);
                }
            }
        }
        dues.due("an example of calls", calls > 0 ? 1 : 0, 1);
    }

    private static void kindsFitTheGatesThatItTells(Dues dues, List<String> lines) {
        dues.of("README.md: kinds and the gates that they fit");
        int kinds = 0;
        for (String line : lines) {
            Matcher row = KIND.matcher(line);
            if (row.matches()) {
                dues.due("kind of " + line, Integer.parseInt(row.group(1)), kinds);
                DockGates dock = Stock.ofOne(kinds, 2);
                List<String> gates = List.of(row.group(2).trim().split(", "));
                for (int gate = 0; gate < 13; gate++) {
                    int told = gates.contains(Integer.toString(gate)) ? 1 : 0;
                    dues.due("kind " + kinds + " at gate " + gate, dock.fits(0, gate), told);
                }
                kinds++;
            }
        }
        dues.due("kinds", kinds, 12);
    }

    private static void callsAreTheFaces(Dues dues, List<String> lines) {
        dues.of("README.md: the calls");
        Set<String> told = new TreeSet<>();
        for (String line : lines) {
            if (line.startsWith("| `")) {
                Matcher call = CALL.matcher(line.substring(0, line.indexOf('|', 1)));
                while (call.find()) {
                    told.add(call.group(1) + " of " + words(call.group(2)).size());
                }
            }
        }
        Set<String> face = new TreeSet<>();
        for (Method method : DockGates.class.getDeclaredMethods()) {
            if (Modifier.isPublic(method.getModifiers())) {
                face.add(method.getName() + " of " + method.getParameterCount());
            }
        }
        dues.due("calls " + told + " are those of the face " + face, told.equals(face) ? 1 : 0, 1);
    }

    private static long answer(DockGates dock, String name, String arguments) throws ReflectiveOperationException {
        List<String> words = words(arguments);
        for (Method method : DockGates.class.getDeclaredMethods()) {
            if (Modifier.isPublic(method.getModifiers()) && method.getName().equals(name)) {
                Class<?>[] types = method.getParameterTypes();
                Object[] values = new Object[types.length];
                for (int i = 0; i < types.length; i++) {
                    values[i] = value(types[i], words.get(i));
                }
                return ((Number) method.invoke(dock, values)).longValue();
            }
        }
        throw new NoSuchMethodException(name);
    }

    private static Object value(Class<?> type, String word) {
        if (type == boolean.class) {
            return Boolean.valueOf(word);
        }
        if (type == long.class) {
            return Long.valueOf(word);
        }
        return Integer.valueOf(word);
    }

    private static List<String> words(String arguments) {
        return arguments.isEmpty() ? List.of() : List.of(arguments.split(", "));
    }
}
