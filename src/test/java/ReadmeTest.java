import java.io.IOException;
import java.lang.reflect.InvocationTargetException;
import java.lang.reflect.Method;
import java.lang.reflect.Modifier;
import java.nio.file.Files;
import java.nio.file.Path;
import java.util.ArrayList;
import java.util.HashMap;
import java.util.List;
import java.util.Map;
import java.util.Set;
import java.util.TreeSet;
import java.util.regex.Matcher;
import java.util.regex.Pattern;

/** README.md: the answers in its example are the class's own, and it tells every call. */
public final class ReadmeTest {
    private static final String MAKING = "RoomLayouts flat = new RoomLayouts();";
    private static final Pattern CALL = Pattern.compile(
            "(?:int (\\w+) = )?flat\\.(\\w+)\\(([^)]*)\\);(?:\\s+// (-?\\d+|true|false)\\b.*)?");
    private static final Pattern ROW = Pattern.compile("\\| `(\\w+)\\(([^)]*)\\)` \\|.*");

    public static void main(String[] args) {
        Answers.runTests(ReadmeTest.class);
    }

    static void theExamplesAnswersAreTheClasssOwn(Answers a) throws Exception {
        RoomLayouts flat = new RoomLayouts();
        Map<String, String> named = new HashMap<>();
        for (String line : example()) {
            if (line.equals(MAKING)) {
                continue;
            }
            Matcher call = CALL.matcher(line);
            a.due("'" + line + "' is a call", true, call.matches());
            String answer = answer(flat, call.group(2), arguments(call.group(3)), named);
            a.due(line, call.group(4) == null ? "null" : call.group(4), answer);
            if (call.group(1) != null) {
                named.put(call.group(1), answer);
            }
        }
    }

    static void theExampleMakesOneObject(Answers a) throws IOException {
        a.due("the example's first line", MAKING, example().get(0));
        a.due("it stands there once", 0, example().lastIndexOf(MAKING));
    }

    static void theExampleShowsEveryCall(Answers a) throws IOException {
        a.due("calls of the example", face().toString(), calls(CALL, 2, example()).toString());
    }

    static void everyCallIsTold(Answers a) throws IOException {
        List<String> all = Files.readAllLines(Path.of("README.md"));
        a.due("calls that are told", face().toString(), calls(ROW, 1, all).toString());
    }

    static void howToRunTheTestsIsTold(Answers a) throws IOException {
        List<String> all = Files.readAllLines(Path.of("README.md"));
        a.due("the script's line", true, all.contains(".ci/run"));
        a.due("the script can be run", true, Files.isExecutable(Path.of(".ci/run")));
    }

    private static List<String> example() throws IOException {
        List<String> all = Files.readAllLines(Path.of("README.md"));
        int begin = all.indexOf("```java") + 1;
        return all.subList(begin, begin + all.subList(begin, all.size()).indexOf("```"));
    }

    /** The calls of lines that have a form, each with how many arguments it takes. */
    private static Set<String> calls(Pattern form, int name, List<String> lines) {
        Set<String> calls = new TreeSet<>();
        for (String line : lines) {
            Matcher call = form.matcher(line);
            if (call.matches()) {
                calls.add(call.group(name) + "/" + arguments(call.group(name + 1)).size());
            }
        }
        return calls;
    }

    private static Set<String> face() {
        Set<String> calls = new TreeSet<>();
        for (Method method : RoomLayouts.class.getDeclaredMethods()) {
            if (Modifier.isPublic(method.getModifiers())) {
                calls.add(method.getName() + "/" + method.getParameterCount());
            }
        }
        return calls;
    }

    private static List<String> arguments(String text) {
        return text.isEmpty() ? new ArrayList<>() : List.of(text.split(", "));
    }

    private static String answer(RoomLayouts flat, String name, List<String> arguments,
            Map<String, String> named) throws IllegalAccessException, InvocationTargetException {
        for (Method method : RoomLayouts.class.getDeclaredMethods()) {
            if (Modifier.isPublic(method.getModifiers()) && method.getName().equals(name)
                    && method.getParameterCount() == arguments.size()) {
                Object[] values = new Object[arguments.size()];
                for (int k = 0; k < values.length; k++) {
                    String text = named.getOrDefault(arguments.get(k), arguments.get(k));
                    values[k] = value(method.getParameterTypes()[k], text);
                }
                return String.valueOf(method.invoke(flat, values));
            }
        }
        return "no such call";
    }

    /** A long stands in the example with its L, as Java wants it; an int without. */
    private static Object value(Class<?> type, String text) {
        if (type == long.class && text.endsWith("L")) {
            return Long.decode(text.substring(0, text.length() - 1));
        }
        return Integer.decode(text);
    }
}
