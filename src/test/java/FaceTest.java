import java.lang.reflect.Constructor;
import java.lang.reflect.Field;
import java.lang.reflect.Member;
import java.lang.reflect.Method;
import java.lang.reflect.Modifier;
import java.util.Set;
import java.util.TreeSet;

/** The class shows the document's face and nothing else. */
final class FaceTest {
    private static final Set<String> FACE = Set.of(
        "public static final int OFF", "public static final int BAD", "public RedoJournal()",
        "public int lay(int)", "public int write(int,int,int,int)", "public int read(int,int)",
        "public int forget(int)", "public int direct(int,int)", "public int commit()", "public int clear()",
        "public int fuse(int)", "public int fail()", "public int mount(long)", "public int count(int)");

    public static void main(String[] args) {
        Due due = new Due();
        due.holds("the class is public and final",
            RedoJournal.class.getModifiers() == (Modifier.PUBLIC | Modifier.FINAL));
        due.holds("the members that can be seen are " + visible(), visible().equals(new TreeSet<>(FACE)));
        due.is("OFF", RedoJournal.OFF, -1);
        due.is("BAD", RedoJournal.BAD, -2);
        for (Class<?> inside : RedoJournal.class.getDeclaredClasses()) {
            due.holds(inside + " is static", Modifier.isStatic(inside.getModifiers()));
        }
        for (Field field : RedoJournal.class.getDeclaredFields()) {
            due.holds(field + " is final if it is static", !Modifier.isStatic(field.getModifiers()) || Modifier.isFinal(field.getModifiers()));
        }
        due.end();
    }

    private static Set<String> visible() {
        Set<String> visible = new TreeSet<>();
        for (Field field : RedoJournal.class.getDeclaredFields()) {
            add(visible, field, field.toString());
        }
        for (Constructor<?> constructor : RedoJournal.class.getDeclaredConstructors()) {
            add(visible, constructor, constructor.toString());
        }
        for (Method method : RedoJournal.class.getDeclaredMethods()) {
            add(visible, method, method.toString());
        }
        return visible;
    }

    private static void add(Set<String> visible, Member member, String text) {
        if (!Modifier.isPrivate(member.getModifiers())) {
            visible.add(text.replace("RedoJournal.", ""));
        }
    }
}
