import java.lang.reflect.Field;
import java.lang.reflect.Method;
import java.lang.reflect.Modifier;
import java.util.Arrays;
import java.util.Set;
import java.util.TreeSet;

/** The class has the document's face and nothing else that is not private. */
public final class FaceTest {
    private static final String[] METHODS = {"write 1", "erase 0", "fault 0", "tell 0", "pages 2", "uses 3", "home 2",
        "ahead 2", "loosen 2", "move 2", "settle 0", "undo 0", "keep 1", "back 1", "at 1", "section 2", "term 2",
        "ring 1", "best 1", "least 1", "would 2", "after 2", "count 1"};

    public static void main(String[] args) {
        Class<?> c = TermsFirst.class;
        same("the class is public and final", Modifier.PUBLIC | Modifier.FINAL, c.getModifiers());
        same("constructors", 1, c.getDeclaredConstructors().length);
        same("public constructors without arguments", 1,
                (int) Arrays.stream(c.getConstructors()).filter(k -> k.getParameterCount() == 0).count());
        methods(c);
        constants(c);
        for (Class<?> inside : c.getDeclaredClasses()) {
            same(inside.getName() + " is static", Modifier.STATIC, inside.getModifiers() & Modifier.STATIC);
        }
        Script.end();
    }

    private static void methods(Class<?> c) {
        Set<String> due = new TreeSet<>(Arrays.asList(METHODS));
        Set<String> open = new TreeSet<>();
        Set<String> publicNames = new TreeSet<>();
        for (Method m : c.getDeclaredMethods()) {
            if (!Modifier.isPrivate(m.getModifiers())) {
                open.add(m.getName() + " " + m.getParameterCount());
                publicNames.add(m.getName());
                boolean isRight = Modifier.isPublic(m.getModifiers()) && !Modifier.isStatic(m.getModifiers())
                        && m.getReturnType() == int.class
                        && Arrays.stream(m.getParameterTypes()).allMatch(t -> t == int.class);
                same(m.getName() + " takes and answers ints", 1, isRight ? 1 : 0);
            }
        }
        same("methods " + open, 1, due.equals(open) ? 1 : 0);
        for (Class<?> inside : c.getDeclaredClasses()) {
            for (Method m : inside.getDeclaredMethods()) {
                same(m.getName() + " bears a public name", 0, publicNames.contains(m.getName()) ? 1 : 0);
            }
        }
        for (Method m : c.getDeclaredMethods()) {
            boolean clashes = Modifier.isPrivate(m.getModifiers()) && publicNames.contains(m.getName());
            same(m.getName() + " is private and bears a public name", 0, clashes ? 1 : 0);
        }
    }

    private static void constants(Class<?> c) {
        same("NONE", -1, TermsFirst.NONE);
        same("UNKNOWN", -2, TermsFirst.UNKNOWN);
        same("OUTSIDE", -3, TermsFirst.OUTSIDE);
        same("NOT", -4, TermsFirst.NOT);
        same("FULL", -5, TermsFirst.FULL);
        Set<String> open = new TreeSet<>();
        for (Field f : c.getDeclaredFields()) {
            if (!Modifier.isPrivate(f.getModifiers())) {
                open.add(f.getName());
            }
            if (Modifier.isStatic(f.getModifiers())) {
                same(f.getName() + " is final", Modifier.FINAL, f.getModifiers() & Modifier.FINAL);
            }
        }
        Set<String> due = new TreeSet<>(Arrays.asList("NONE", "UNKNOWN", "OUTSIDE", "NOT", "FULL"));
        same("fields " + open, 1, due.equals(open) ? 1 : 0);
    }

    private static void same(String what, int want, int got) {
        Script.due("face", what, got, want);
    }
}
