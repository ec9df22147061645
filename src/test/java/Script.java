import java.lang.reflect.Method;
import java.util.regex.Matcher;
import java.util.regex.Pattern;

/** A run of calls on a new object, written as in the document: "uses(0, 3, 1) = 1; home(3, 2) = -1". */
final class Script {
    private static final Pattern CALL = Pattern.compile("(\\w+)\\(([^)]*)\\)\\s*=\\s*(-?\\d+)\\s*");
    private static int wrong = 0;
    private static int checked = 0;

    private final String name;
    private final TermsFirst x = new TermsFirst();
    private int calls = 0;

    Script(String name) {
        this.name = name;
    }

    /** Makes the calls, which semicolons divide, and compares the answers. */
    Script run(String calls) {
        for (String part : calls.split(";")) {
            if (part.isBlank()) {
                continue;
            }
            Matcher m = CALL.matcher(part.strip());
            if (!m.matches()) {
                throw new IllegalArgumentException("no call: " + part);
            }
            due(m.group(1) + "(" + m.group(2) + ")", answer(m.group(1), m.group(2)), Integer.parseInt(m.group(3)));
        }
        return this;
    }

    /** Writes a text behind what is there. */
    Script type(String text) {
        countCall();
        int length = x.count(10);
        for (int i = 0; i < text.length(); i++) {
            due("write " + (int) text.charAt(i), x.write(text.charAt(i)), length + i + 1);
        }
        return this;
    }

    /** Empties the text, writes another, and compares its fault; with a fault tell() changes nothing. */
    Script faulty(String text, int fault) {
        countCall();
        x.erase();
        type(text);
        due("fault() of \"" + text + "\"", x.fault(), fault);
        if (fault != TermsFirst.NONE) {
            due("tell() of \"" + text + "\"", x.tell(), TermsFirst.NOT);
            due("count(10) of \"" + text + "\"", x.count(10), text.length());
        }
        return this;
    }

    /** As faulty(), but on an object of its own. */
    Script freshly(String text, int fault) {
        new Script(name).faulty(text, fault);
        return this;
    }

    /** Empties the text, writes another and carries it out. */
    Script told(String text, int clauses) {
        faulty(text, TermsFirst.NONE);
        due("tell() of \"" + text + "\"", x.tell(), clauses);
        due("count(10) after tell()", x.count(10), 0);
        return this;
    }

    /** Compares the whole order. */
    Script ordered(int... sections) {
        due("count(0)", x.count(0), sections.length);
        for (int p = 0; p < sections.length; p++) {
            due("at(" + p + ")", x.at(p), sections[p]);
            due("section(" + sections[p] + ", 0)", x.section(sections[p], 0), p);
        }
        return this;
    }

    /** Compares the whole best order. */
    Script bestIs(int... sections) {
        for (int p = 0; p < sections.length; p++) {
            due("best(" + p + ")", x.best(p), sections[p]);
        }
        return this;
    }

    /** The whole manual, the length of the text and how much can be undone. */
    String picture() {
        int n = ask("count", "0");
        StringBuilder seen = new StringBuilder().append(n).append(" sections, undo ").append(ask("count", "9"))
                .append(", text ").append(ask("count", "10"));
        for (int section = 0; section < n; section++) {
            seen.append(" |");
            for (int what : new int[] {0, 1, 2, 3, 8}) {
                seen.append(' ').append(ask("section", section + ", " + what));
            }
        }
        return seen.toString();
    }

    /** The answer of a call, where two objects are compared. */
    int ask(String method, String arguments) {
        countCall();
        return answer(method, arguments);
    }

    int calls() {
        return calls;
    }

    private void countCall() {
        if (++calls > Pair.MOST_CALLS) {
            throw new IllegalStateException(name + ": too many calls of one object");
        }
    }

    private int answer(String method, String arguments) {
        String[] words = arguments.isBlank() ? new String[0] : arguments.split(",");
        Object[] numbers = new Object[words.length];
        Class<?>[] types = new Class<?>[words.length];
        for (int i = 0; i < words.length; i++) {
            numbers[i] = Integer.valueOf(words[i].strip());
            types[i] = int.class;
        }
        try {
            Method m = TermsFirst.class.getMethod(method, types);
            return (Integer) m.invoke(x, numbers);
        } catch (ReflectiveOperationException e) {
            throw new IllegalStateException(name + ": " + method + "(" + arguments + ")", e);
        }
    }

    private void due(String call, int got, int want) {
        countCall();
        due(name, call, got, want);
    }

    static void due(String name, String call, long got, long want) {
        checked++;
        if (got != want) {
            wrong++;
            System.out.println(name + ": " + call + " answered " + got + ", due is " + want);
        }
    }

    static void same(String name, String what, String got, String want) {
        checked++;
        if (!got.equals(want)) {
            wrong++;
            System.out.println(name + ": " + what + " is " + got + ", due is " + want);
        }
    }

    /** Ends the test, with exit code 1 if an answer was wrong. */
    static void end() {
        System.out.println(checked + " answers, " + wrong + " wrong");
        if (wrong != 0) {
            System.exit(1);
        }
    }
}
