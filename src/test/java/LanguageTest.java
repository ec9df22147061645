import java.io.IOException;
import java.lang.reflect.Field;
import java.lang.reflect.Method;
import java.lang.reflect.Modifier;
import java.nio.file.Files;
import java.nio.file.Path;
import java.util.ArrayList;
import java.util.List;
import java.util.Set;
import java.util.TreeSet;
import java.util.regex.Matcher;
import java.util.regex.Pattern;

/** The rules of LANGUAGE.md that can be seen from the source or by looking into the class. */
public final class LanguageTest {
    private static final Pattern HEAD = Pattern.compile("(?m)^( +)(?:\\w+ )*?(\\w+)\\(([^)]*)\\) \\{$");
    private static final Set<String> LIBRARY = Set.of("String", "Integer", "Math");
    private static final Set<String> LIBRARY_CALLS = Set.of("length", "charAt", "bitCount", "min");
    private static final int[] MOST = {7, 60, 12, 20};

    public static void main(String[] args) throws IOException {
        String whole = Files.readString(Path.of("src/main/java/TermsFirst.java"));
        String code = whole.replaceAll("(?s)/\\*.*?\\*/", "").replaceAll("//[^\n]*", "");
        String bare = code.replaceAll("\"[^\"]*\"", "\"\"").replaceAll("'[^']'", "' '");
        List<Class<?>> classes = new ArrayList<>(List.of(TermsFirst.class.getDeclaredClasses()));
        classes.add(TermsFirst.class);
        words(bare);
        names(bare, classes);
        objects(bare, classes);
        methods(bare, classes);
        classes(classes);
        noRecursion(bare);
        Script.due("rule 4", "signs beyond 127", (int) whole.chars().filter(c -> c > 127).count(), 0);
        Script.end();
    }

    /** Rules 2, 5 and 6. */
    private static void words(String bare) {
        for (String word : new String[] {"throw", "throws", "try", "catch", "finally", "synchronized", "assert",
            "import", "package", "volatile", "native", "yield", "var", "double", "float", "instanceof", "protected"}) {
            none("the word " + word, "\\b" + word + "\\b", bare);
        }
        none("a lambda", "->", bare);
        none("a method reference", "::", bare);
        none("a static block", "static\\s*\\{", bare);
        none("an annotation", "@", bare);
        none("a text joined by +", "\"\\s*\\+|\\+\\s*\"", bare);
        none("an array of arrays", "\\[\\]\\s*\\[", bare);
    }

    private static void none(String what, String pattern, String bare) {
        Matcher m = Pattern.compile(pattern).matcher(bare);
        Script.same("LANGUAGE.md", what, m.find() ? "there: " + lineAt(bare, m.start()) : "not there", "not there");
    }

    private static String lineAt(String text, int at) {
        int from = text.lastIndexOf('\n', at) + 1;
        int to = text.indexOf('\n', at);
        return text.substring(from, to < 0 ? text.length() : to).strip();
    }

    /** Rules 3 and 4: no class but the own ones and those of the list, and of these the calls of the list alone. */
    private static void names(String bare, List<Class<?>> classes) {
        Set<String> own = new TreeSet<>();
        classes.forEach(c -> own.add(c.getSimpleName()));
        Set<String> strange = new TreeSet<>();
        Matcher m = Pattern.compile("\\b[A-Z]\\w*").matcher(bare);
        while (m.find()) {
            boolean isConstant = m.group().equals(m.group().toUpperCase());
            if (!isConstant && !own.contains(m.group()) && !LIBRARY.contains(m.group())) {
                strange.add(m.group());
            }
        }
        Script.same("LANGUAGE.md", "strange names", strange.toString(), "[]");
        Set<String> known = new TreeSet<>(LIBRARY_CALLS);
        for (Class<?> c : classes) {
            for (Method method : c.getDeclaredMethods()) {
                known.add(method.getName());
            }
        }
        Matcher call = Pattern.compile("\\.(\\w+)\\(").matcher(bare);
        while (call.find()) {
            Script.due("LANGUAGE.md", "the call " + call.group(), known.contains(call.group(1)) ? 1 : 0, 1);
        }
    }

    /** Rule 12 and the one room: objects and rows are made with the object, none by a call. */
    private static void objects(String bare, List<Class<?>> classes) {
        Set<String> constructors = new TreeSet<>();
        classes.forEach(c -> constructors.add(c.getSimpleName()));
        String[] lines = bare.split("\n");
        String method = "";
        for (String line : lines) {
            Matcher head = HEAD.matcher(line);
            if (head.find()) {
                method = head.group(2);
            }
            boolean isField = Pattern.compile("^\\s+(private )?final \\w+(\\[\\])? \\w+ = new ").matcher(line).find();
            if (line.contains("new ") && !isField) {
                Script.due("LANGUAGE.md", "in a constructor: " + line.strip(), constructors.contains(method) ? 1 : 0, 1);
            }
        }
    }

    /** Rule 11: the parameters and the lines of each method; none escapes by the way that it is written. */
    private static void methods(String bare, List<Class<?>> classes) {
        Matcher head = HEAD.matcher(bare);
        int seen = 0;
        int due = 0;
        for (Class<?> c : classes) {
            due += c.getDeclaredMethods().length;
            due += hasHead(bare, c.getSimpleName()) ? 1 : 0;
        }
        while (head.find()) {
            if (Set.of("if", "for", "while", "switch").contains(head.group(2))) {
                continue;
            }
            seen++;
            int end = bare.indexOf("\n" + head.group(1) + "}", head.end());
            long lines = bare.substring(head.start(), end).lines().count() + 1;
            int parameters = head.group(3).isBlank() ? 0 : head.group(3).split(",").length;
            Script.due("LANGUAGE.md", head.group(2) + " is short", lines <= MOST[1] ? 1 : 0, 1);
            Script.due("LANGUAGE.md", head.group(2) + " has few parameters", parameters <= MOST[0] ? 1 : 0, 1);
        }
        Script.due("LANGUAGE.md", "methods found", seen, due);
    }

    private static boolean hasHead(String bare, String name) {
        return HEAD.matcher(bare).results().anyMatch(m -> m.group(2).equals(name));
    }

    /** Rules 1, 2, 5 and 11: what the classes are and how many fields they have. */
    private static void classes(List<Class<?>> classes) {
        Script.due("LANGUAGE.md", "few classes", classes.size() <= MOST[2] ? 1 : 0, 1);
        for (Class<?> c : classes) {
            int fields = 0;
            for (Field f : c.getDeclaredFields()) {
                boolean isStatic = Modifier.isStatic(f.getModifiers());
                fields += isStatic ? 0 : 1;
                if (isStatic) {
                    Script.due("LANGUAGE.md", f + " is a constant", Modifier.isFinal(f.getModifiers())
                            && f.getType() == int.class ? 1 : 0, 1);
                }
            }
            Script.due("LANGUAGE.md", c + " has few fields", fields <= MOST[3] ? 1 : 0, 1);
            Script.due("LANGUAGE.md", c + " is final", Modifier.isFinal(c.getModifiers()) ? 1 : 0, 1);
        }
    }

    /**
     * Rules 8 and 11: no chain of calls comes back to where it began, and none is more than eight deep. Methods
     * are told apart by name alone, which can only find too much.
     */
    private static void noRecursion(String bare) {
        List<String> names = new ArrayList<>();
        List<String> bodies = new ArrayList<>();
        Matcher head = HEAD.matcher(bare);
        while (head.find()) {
            if (!Set.of("if", "for", "while", "switch").contains(head.group(2))) {
                names.add(head.group(2));
                bodies.add(bare.substring(head.end(), bare.indexOf("\n" + head.group(1) + "}", head.end())));
            }
        }
        for (int i = 0; i < names.size(); i++) {
            int depth = depth(i, names, bodies, 1);
            Script.due("LANGUAGE.md", names.get(i) + " goes " + depth + " deep", depth <= 8 ? 1 : 0, 1);
        }
    }

    private static int depth(int method, List<String> names, List<String> bodies, int level) {
        int deepest = level;
        for (int i = 0; i < names.size() && level <= 8; i++) {
            if (Pattern.compile("\\b" + names.get(i) + "\\(").matcher(bodies.get(method)).find()) {
                deepest = Math.max(deepest, depth(i, names, bodies, level + 1));
            }
        }
        return deepest;
    }
}
