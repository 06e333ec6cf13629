import java.io.IOException;
import java.lang.reflect.Field;
import java.lang.reflect.Method;
import java.lang.reflect.Modifier;
import java.nio.file.Files;
import java.nio.file.Path;
import java.util.HashMap;
import java.util.List;
import java.util.Map;
import java.util.Set;
import java.util.TreeSet;
import java.util.regex.Matcher;
import java.util.regex.Pattern;

/** README.md tells of the whole face, and its example answers what it says. Runs where README.md lies. */
final class ReadmeTest {
    private static final Pattern ROW = Pattern.compile("\\| `(\\w+) (\\w+)\\((.*?)\\)` \\|.*");
    private static final Pattern MADE_CALL =
            Pattern.compile("(?:int (\\w+) = )?moves\\.(\\w+)\\((.*?)\\);\\s*// (.*)");
    private static final Pattern ANSWER = Pattern.compile("(-?\\d+|NONE|true|false)\\b.*");

    public static void main(String[] args) throws IOException, ReflectiveOperationException {
        Expect expect = new Expect("ReadmeTest");
        List<String> lines = Files.readAllLines(Path.of("README.md"));
        face(expect, lines);
        example(expect, lines);
        expect.end();
    }

    private static void face(Expect expect, List<String> lines) {
        Set<String> told = new TreeSet<>();
        for (String line : lines) {
            Matcher row = ROW.matcher(line);
            if (row.matches()) {
                told.add(row.group(1) + " " + row.group(2) + " takes " + row.group(3).split(", ").length);
            }
        }
        Set<String> due = new TreeSet<>();
        for (Method method : methods().values()) {
            String returned = method.getReturnType().getSimpleName();
            due.add(returned + " " + method.getName() + " takes " + method.getParameterCount());
        }
        expect.yes("the methods in README.md " + told + " are those of the face", told.equals(due));
        expect.yes("README.md tells of the constructor", hasRow(lines, "PileMoves()"));
        for (Field field : PileMoves.class.getFields()) {
            expect.yes("README.md tells of " + field.getName(), hasRow(lines, field.getName()));
        }
    }

    private static boolean hasRow(List<String> lines, String name) {
        return lines.stream().anyMatch(line -> line.startsWith("| `" + name + "` |"));
    }

    private static void example(Expect expect, List<String> lines) throws ReflectiveOperationException {
        PileMoves moves = new PileMoves();
        Map<String, Integer> variables = new HashMap<>();
        Map<String, Method> methods = methods();
        Set<String> used = new TreeSet<>();
        for (String line : lines) {
            Matcher call = MADE_CALL.matcher(line);
            if (!call.matches() || !methods.containsKey(call.group(2))) {
                continue;
            }
            used.add(call.group(2));
            Object got = answer(moves, methods.get(call.group(2)), call.group(3), variables);
            if (call.group(1) != null) {
                variables.put(call.group(1), (Integer) got);
            }
            Matcher due = ANSWER.matcher(call.group(4));
            if (got != null) {
                expect.yes(line + " tells its answer " + got, due.matches() && told(got).equals(due.group(1)));
            }
        }
        expect.yes("the example makes each call " + used, used.equals(new TreeSet<>(methods.keySet())));
    }

    private static Object answer(PileMoves moves, Method method, String list, Map<String, Integer> variables)
            throws ReflectiveOperationException {
        String[] words = list.split(", ");
        Class<?>[] types = method.getParameterTypes();
        Object[] numbers = new Object[types.length];
        for (int i = 0; i < types.length; i++) {
            if (types[i] == boolean.class) {
                numbers[i] = words[i].equals("true");
            } else {
                Integer known = variables.get(words[i]);
                numbers[i] = known != null ? known : Integer.valueOf(words[i]);
            }
        }
        return method.invoke(moves, numbers);
    }

    private static String told(Object answer) {
        return answer.equals(PileMoves.NONE) ? "NONE" : answer.toString();
    }

    private static Map<String, Method> methods() {
        Map<String, Method> methods = new HashMap<>();
        for (Method method : PileMoves.class.getDeclaredMethods()) {
            if (Modifier.isPublic(method.getModifiers())) {
                methods.put(method.getName(), method);
            }
        }
        return methods;
    }
}
