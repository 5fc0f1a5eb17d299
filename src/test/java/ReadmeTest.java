import java.io.IOException;
import java.lang.reflect.InvocationTargetException;
import java.lang.reflect.Method;
import java.lang.reflect.Modifier;
import java.nio.file.Files;
import java.nio.file.Path;
import java.util.ArrayList;
import java.util.List;
import java.util.Set;
import java.util.TreeSet;
import java.util.regex.Matcher;
import java.util.regex.Pattern;

/** The calls that README.md shows answer as it says, each call of the face is shown, and what it names is there. */
final class ReadmeTest {
    private static final Path FILE = Path.of("README.md");
    private static final String NEW = "RedoJournal journal = new RedoJournal();";
    private static final Pattern CALL = Pattern.compile("journal\\.(\\w+)\\(([^)]*)\\); +// (-?\\d+|OFF|BAD)(: .*)?");

    private static final Due due = new Due();
    private static final Set<String> shown = new TreeSet<>();

    public static void main(String[] args) throws IOException, ReflectiveOperationException {
        List<String> lines = Files.readAllLines(FILE);
        showsItsCalls(lines);
        listsEachCall(lines);
        namesWhatIsThere(String.join("\n", lines));
        tellsOfEachTest(String.join("\n", lines));
        due.end();
    }

    private static void showsItsCalls(List<String> lines) throws ReflectiveOperationException {
        RedoJournal journal = null;
        boolean inside = false;
        for (String line : lines) {
            if (line.startsWith("```")) {
                inside = line.equals("```java");
                journal = null;
            } else if (inside && line.equals(NEW)) {
                journal = new RedoJournal();
            } else if (inside) {
                answersAsItSays(journal, line);
            }
        }
        for (Method method : face()) {
            due.holds("README.md shows " + method, shown.contains(method.getName()));
        }
    }

    /** A line that shows no call with its answer is a fault: nobody would look whether it holds. */
    private static void answersAsItSays(RedoJournal journal, String line) throws ReflectiveOperationException {
        Matcher call = CALL.matcher(line);
        if (journal == null || !call.matches()) {
            due.holds("README.md shows a call with its answer: " + line, false);
            return;
        }
        shown.add(call.group(1));
        due.is("README.md: " + line, answer(journal, call.group(1), numbers(call.group(2))), said(call.group(3)));
    }

    private static int said(String answer) {
        switch (answer) {
            case "OFF":
                return RedoJournal.OFF;
            case "BAD":
                return RedoJournal.BAD;
            default:
                return Integer.parseInt(answer);
        }
    }

    private static List<Long> numbers(String text) {
        List<Long> numbers = new ArrayList<>();
        for (String each : text.isEmpty() ? new String[0] : text.split(", ")) {
            numbers.add(Long.parseLong(each));
        }
        return numbers;
    }

    private static int answer(RedoJournal journal, String name, List<Long> numbers)
            throws IllegalAccessException, InvocationTargetException, NoSuchMethodException {
        for (Method method : face()) {
            if (method.getName().equals(name) && method.getParameterCount() == numbers.size()) {
                Object[] arguments = new Object[numbers.size()];
                for (int i = 0; i < arguments.length; i++) {
                    boolean isLong = method.getParameterTypes()[i] == long.class;
                    arguments[i] = isLong ? (Object) numbers.get(i) : (Object) Math.toIntExact(numbers.get(i));
                }
                return (Integer) method.invoke(journal, arguments);
            }
        }
        throw new NoSuchMethodException(name);
    }

    private static List<Method> face() {
        List<Method> face = new ArrayList<>();
        for (Method method : RedoJournal.class.getDeclaredMethods()) {
            if (Modifier.isPublic(method.getModifiers())) {
                face.add(method);
            }
        }
        return face;
    }

    /** The table has a row for each call of the face, with as many arguments, and for no other. */
    private static void listsEachCall(List<String> lines) {
        Set<String> rows = new TreeSet<>();
        Pattern row = Pattern.compile("\\| `(\\w+)\\(([\\w, ]*)\\)` \\|.*");
        for (String line : lines) {
            Matcher matcher = row.matcher(line);
            if (matcher.matches()) {
                int arguments = matcher.group(2).isEmpty() ? 0 : matcher.group(2).split(", ").length;
                rows.add(matcher.group(1) + " of " + arguments);
            }
        }
        Set<String> calls = new TreeSet<>();
        for (Method method : face()) {
            calls.add(method.getName() + " of " + method.getParameterCount());
        }
        due.holds("README.md lists " + rows + ", due is " + calls, rows.equals(calls));
    }

    private static void namesWhatIsThere(String text) {
        Matcher named = Pattern.compile("`((?:src|\\.ci)/[\\w./]+)`").matcher(text);
        while (named.find()) {
            due.holds("README.md names " + named.group(1), Files.exists(Path.of(named.group(1))));
        }
    }

    private static void tellsOfEachTest(String text) throws IOException {
        try (var files = Files.list(Path.of("src/test/java"))) {
            for (Path file : (Iterable<Path>) files::iterator) {
                String name = file.getFileName().toString();
                if (name.endsWith("Test.java")) {
                    String family = name.endsWith("BoundariesTest.java") ? "`" + name.replace("BoundariesTest.java", "`") : name;
                    due.holds("README.md tells of " + name, text.contains(family));
                }
            }
        }
    }
}
