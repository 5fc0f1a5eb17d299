import java.io.IOException;
import java.lang.reflect.Field;
import java.lang.reflect.Method;
import java.lang.reflect.Modifier;
import java.nio.file.Files;
import java.nio.file.Path;
import java.util.ArrayList;
import java.util.List;
import java.util.Set;
import java.util.TreeSet;
import java.util.regex.Matcher;
import java.util.regex.Pattern;

/** Those rules of LANGUAGE.md that can be seen from the file's text or from its classes. */
final class LanguageTest {
    private static final Path FILE = Path.of("src/main/java/RedoJournal.java");
    private static final int MOST_LINES_OF_A_METHOD = 60;
    private static final int MOST_PARAMETERS = 7;
    private static final int MOST_CLASSES = 12;
    private static final int MOST_FIELDS = 20;

    private static final Due due = new Due();

    public static void main(String[] args) throws IOException {
        String code = Files.readString(FILE).replaceAll("(?s)/\\*.*?\\*/", "").replaceAll("//.*", "");
        onlyWhatRule4Lists(code);
        nothingThatIsRuledOut(code);
        shortMethods(code);
        nothingIsMadeByACall(code);
        List<Class<?>> classes = new ArrayList<>(List.of(RedoJournal.class.getDeclaredClasses()));
        classes.add(RedoJournal.class);
        due.holds("rule 11: the file has few classes", classes.size() <= MOST_CLASSES);
        for (Class<?> each : classes) {
            fewFields(each);
            ownNames(each);
        }
        due.end();
    }

    private static Set<String> found(String code, String pattern) {
        Set<String> found = new TreeSet<>();
        Matcher matcher = Pattern.compile(pattern).matcher(code);
        while (matcher.find()) {
            found.add(matcher.group());
        }
        return found;
    }

    private static void onlyWhatRule4Lists(String code) {
        Set<String> listed = Set.of("System.arraycopy", "Arrays.copyOf", "Arrays.copyOfRange", "Arrays.fill",
            "Long.bitCount", "Integer.bitCount", "Math.max", "Math.min");
        for (String call : found(code, "\\b(System|Arrays|Long|Integer|Math|Objects|List|String)\\.\\w+")) {
            due.holds("rule 4 lists " + call, listed.contains(call));
        }
        for (String line : found(code, "(?m)^import .*;")) {
            due.holds("rule 4 lists " + line, line.equals("import java.util.Arrays;"));
        }
        due.holds("the file has no package", found(code, "(?m)^\\s*package\\b").isEmpty());
    }

    private static void nothingThatIsRuledOut(String code) {
        for (String word : new String[] {"->", "::", "\\bfinally\\b", "\\bcatch\\b", "\\bsynchronized\\b", "\\bassert\\b",
            "\\btry\\b", "\\bThread\\b", "\\bprotected\\b", "\\bvar\\b", "static \\{", "\\bdouble\\b", "\\bfloat\\b"}) {
            due.holds("the file has no " + word, found(code, word).isEmpty());
        }
    }

    private static void shortMethods(String code) {
        int begin = -1;
        String[] lines = code.split("\n");
        for (int i = 0; i < lines.length; i++) {
            if (lines[i].matches("( {4}| {8})(?! ).*\\(.*\\) \\{")) {
                begin = i;
                due.holds("rule 11: few parameters in" + lines[i], lines[i].split(",").length <= MOST_PARAMETERS);
            } else if (begin >= 0 && lines[i].matches("( {4}| {8})\\}")) {
                due.holds("rule 11: the method that ends in line " + i + " is short", i - begin <= MOST_LINES_OF_A_METHOD);
            }
        }
        due.holds("there are methods", begin >= 0);
    }

    /** All memory is made once: by a final field's initialiser, or by the constructor for one. */
    private static void nothingIsMadeByACall(String code) {
        Set<String> made = found(code, "(?m)^.*\\bnew\\b.*$");
        for (String line : made) {
            due.holds("made once:" + line, line.matches(" +(final .*|disk|log|now) = new .*"));
        }
        due.holds("there is something made", !made.isEmpty());
        due.holds("no copy is made", found(code, "copyOf|\\bclone\\b|\" \\+").isEmpty());
    }

    private static void fewFields(Class<?> each) {
        int fields = 0;
        for (Field field : each.getDeclaredFields()) {
            boolean isStatic = Modifier.isStatic(field.getModifiers());
            due.holds("rule 5: " + field + " is final", !isStatic || Modifier.isFinal(field.getModifiers()));
            fields += isStatic ? 0 : 1;
        }
        due.holds("rule 11: " + each + " has few fields", fields <= MOST_FIELDS);
    }

    private static void ownNames(Class<?> each) {
        Set<String> face = Set.of("lay", "write", "read", "forget", "direct", "commit", "clear", "fuse", "fail", "mount", "count");
        for (Method method : each.getDeclaredMethods()) {
            boolean isOfTheFace = each == RedoJournal.class && Modifier.isPublic(method.getModifiers());
            due.holds("rule 1: " + method + " has a name of its own", isOfTheFace || !face.contains(method.getName()));
        }
    }
}
