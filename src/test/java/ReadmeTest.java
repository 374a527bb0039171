import java.io.IOException;
import java.lang.reflect.InvocationTargetException;
import java.lang.reflect.Method;
import java.lang.reflect.Modifier;
import java.nio.file.Files;
import java.nio.file.Path;
import java.util.ArrayList;
import java.util.List;
import java.util.Map;
import java.util.Set;
import java.util.TreeMap;
import java.util.TreeSet;
import java.util.regex.Matcher;
import java.util.regex.Pattern;

/** README's example holds as it is written, and its example and its table have each method of the class. */
public final class ReadmeTest extends Checks {
    private static final String NEW = "SplashPages pages = new SplashPages();";
    private static final Pattern CALL = Pattern.compile("pages\\.(\\w+)\\((.*)\\);\\s+// (.+)");
    private static final Pattern ROW = Pattern.compile("\\| `(\\w+)\\((.*)\\)` \\|.*");

    private final List<String> lines;
    private final Map<String, Method> methods = new TreeMap<>();

    private ReadmeTest() throws IOException {
        lines = Files.readAllLines(Path.of("README.md"));
        for (Method method : SplashPages.class.getDeclaredMethods()) {
            if (Modifier.isPublic(method.getModifiers())) {
                methods.put(method.getName(), method);
            }
        }
    }

    public static void main(String[] args) throws IOException {
        ReadmeTest test = new ReadmeTest();
        test.exampleHolds();
        test.tableHasEachMethod();
        test.testsAreNamed();
        test.end();
    }

    private void exampleHolds() {
        sentence("README, the example");
        Set<String> called = new TreeSet<>();
        SplashPages pages = null;
        for (String line : example()) {
            Matcher call = CALL.matcher(line);
            if (line.equals(NEW)) {
                pages = new SplashPages();
            } else if (call.matches() && methods.containsKey(call.group(1)) && pages != null) {
                called.add(call.group(1));
                dueText(line, answer(pages, methods.get(call.group(1)), call.group(2)), call.group(3));
            } else if (!line.isEmpty() && !line.startsWith("//")) {
                dueText(line, "no call of the class", "a call of the class");
            }
        }
        dueText("methods that are called", called.toString(), methods.keySet().toString());
    }

    private List<String> example() {
        int first = lines.indexOf("```java") + 1;
        int behind = first + lines.subList(first, lines.size()).indexOf("```");
        return lines.subList(first, behind);
    }

    private static String answer(SplashPages pages, Method method, String written) {
        List<Object> arguments = new ArrayList<>();
        for (String argument : written.split(", ")) {
            if (argument.startsWith("'")) {
                arguments.add((int) argument.charAt(1));
            } else if (!argument.isEmpty()) {
                arguments.add(Integer.parseInt(argument));
            }
        }
        try {
            Object answer = method.invoke(pages, arguments.toArray());
            return answer.equals(NONE) ? "NONE" : answer.toString();
        } catch (InvocationTargetException e) {
            return "throws " + e.getCause().getClass().getSimpleName();
        } catch (ReflectiveOperationException | IllegalArgumentException e) {
            return "no such call";
        }
    }

    private void tableHasEachMethod() {
        sentence("README, the table");
        Set<String> told = new TreeSet<>();
        for (String line : lines) {
            Matcher row = ROW.matcher(line);
            if (row.matches() && methods.containsKey(row.group(1))) {
                told.add(row.group(1));
                int parameters = row.group(2).isEmpty() ? 0 : row.group(2).split(", ").length;
                due(line, parameters, methods.get(row.group(1)).getParameterCount());
            }
        }
        dueText("methods in the table", told.toString(), methods.keySet().toString());
    }

    private void testsAreNamed() throws IOException {
        sentence("README, the tests");
        try (var files = Files.list(Path.of("src/test/java"))) {
            for (Path file : files.sorted().toList()) {
                String name = file.getFileName().toString().replace(".java", "");
                due(name + " is named", String.join("\n", lines).contains("`" + name + "`") ? 1 : 0, 1);
            }
        }
    }
}
