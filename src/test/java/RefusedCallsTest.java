import java.util.ArrayList;
import java.util.List;
import java.util.function.Supplier;

/**
 * "A method that returns an error code changes nothing", and a question changes nothing either. Of two objects
 * with the same calls behind them one gets such a call besides; from then on both must answer alike, also when
 * all is undone, what was saved is fetched and the text is told.
 */
public final class RefusedCallsTest {
    private static final String FOR_ALL = "write(-1) = -3; write(256) = -3; pages(-1, 1) = -2; pages(10, 1) = -2;"
            + "pages(0, 0) = -3; pages(0, 10) = -3; uses(-1, 0, 1) = -2; uses(10, 0, 1) = -2; uses(0, -1, 1) = -2;"
            + "uses(0, 12, 1) = -2; uses(0, 0, -1) = -3; uses(0, 0, 2) = -3; home(-1, 0) = -2; home(12, 0) = -2;"
            + "home(0, -2) = -2; home(0, 10) = -2; ahead(0, 0) = -2; ahead(1, 1) = -2; ahead(-1, 0) = -2;"
            + "ahead(0, -1) = -2; ahead(10, 0) = -2; ahead(0, 10) = -2; loosen(-1, 0) = -2; loosen(0, -1) = -2;"
            + "loosen(10, 0) = -2; loosen(0, 10) = -2; loosen(0, 0) = -4; move(-1, 0) = -2; move(10, 0) = -2;"
            + "move(0, -1) = -2; move(0, 10) = -2; keep(-1) = -3; keep(2) = -3; back(-1) = -3; back(2) = -3;"
            + "at(-1) = -2; at(10) = -2; section(-1, 0) = -2; section(10, 0) = -2; section(0, -1) = -3;"
            + "section(0, 9) = -3; term(-1, 0) = -2; term(12, 0) = -2; term(0, -1) = -3; term(0, 5) = -3;"
            + "ring(-2) = -3; best(-1) = -2; best(10) = -2; least(-1) = -3; least(4) = -3; would(-1, 0) = -2;"
            + "would(10, 0) = -2; would(0, -1) = -2; would(0, 12) = -2; after(-1, 0) = -2; after(10, 0) = -2;"
            + "after(0, -1) = -2; after(0, 10) = -2; count(-1) = -3; count(12) = -3";
    private static final String NEW = "tell() = -4; undo() = -4; back(0) = -4; back(1) = -4; ahead(1, 0) = -4;"
            + "ahead(3, 2) = -4; loosen(0, 1) = -4; pages(4, 1) = -2; move(0, 4) = -2; home(0, 4) = -2";
    private static final String EDITED = "write(65) = -5; write(0) = -5; back(1) = -4; ahead(0, 2) = -4;"
            + "ahead(2, 0) = -4; ahead(1, 0) = -4; loosen(0, 2) = -4; loosen(1, 0) = -4; move(2, 1) = -4;"
            + "move(0, 0) = -4; after(2, 3) = -4; pages(4, 1) = -2; uses(4, 0, 1) = -2; home(0, 4) = -2;"
            + "move(0, 4) = -2; ahead(0, 4) = -2; loosen(4, 0) = -2";
    private static final String FAULTY = "tell() = -4; undo() = -4; back(0) = -4; ahead(9, 0) = -4; ahead(0, 9) = -4;"
            + "loosen(0, 9) = -4; loosen(0, 1) = -4; move(0, 0) = -4; move(9, 9) = -4; after(0, 0) = -4; after(9, 9) = -4";
    private static final String QUESTIONS = "fault();at(0);at(1);best(0);best(1);ring(-1);ring(0);ring(1);ring(9);"
            + "least(0);least(1);least(2);least(3);would(0, 0);would(1, 11);would(0, 5);after(0, 0);after(0, 1);"
            + "after(1, 0);after(1, 1)";

    public static void main(String[] args) {
        List<String> questions = questions();
        compare("a new object", RefusedCallsTest::fresh, refused(NEW), questions);
        compare("a manual with a full history and a full text", RefusedCallsTest::edited, refused(EDITED), questions);
        compare("ten sections and a text with a fault", RefusedCallsTest::faulty, refused(FAULTY), questions);
        Script.end();
    }

    private static Script fresh() {
        return new Script("a new object");
    }

    private static Script edited() {
        Script s = new Script("edited").run("uses(3, 11, 1) = 1; keep(0) = 0; pages(0, 7) = 1; uses(0, 0, 1) = 1;"
                + "home(0, 1) = -1; uses(1, 5, 1) = 1; home(5, 0) = -1; move(2, 0) = 1; ahead(2, 0) = 1;"
                + "pages(3, 9) = 1; count(9) = 8");
        return s.type(" ".repeat(170) + "uses 0 b;pages 2 5;home l 0   ").run("count(10) = 200");
    }

    private static Script faulty() {
        return new Script("faulty").told("sections 10;order 9 8 7 6 5 4 3 2 1 0;ahead 9 0;uses 9 a;home a 0;pages 5 5", 6)
                .run("keep(1) = 1").type("pages 9 9;uses 10 a");
    }

    private static List<String> questions() {
        List<String> calls = new ArrayList<>(List.of(QUESTIONS.split(";")));
        for (int what = 0; what <= 11; what++) {
            calls.add("count(" + what + ")");
        }
        for (int what = 0; what <= 8; what++) {
            calls.add("section(0, " + what + ")");
            calls.add("section(1, " + what + ")");
        }
        for (int what = 0; what <= 4; what++) {
            calls.add("term(0, " + what + ")");
            calls.add("term(11, " + what + ")");
        }
        return calls;
    }

    private static List<String> refused(String own) {
        return List.of((FOR_ALL + "; " + own).split(";"));
    }

    private static void compare(String name, Supplier<Script> state, List<String> refused, List<String> questions) {
        String undone = undone(state.get());
        String told = told(state.get());
        for (String call : refused) {
            Script.same(name, "what can be undone after " + call, undone(state.get().run(call)), undone);
            Script.same(name, "what can be told after " + call, told(state.get().run(call)), told);
        }
        for (String call : questions) {
            String method = call.substring(0, call.indexOf('('));
            String arguments = call.substring(call.indexOf('(') + 1, call.indexOf(')'));
            Script asked = state.get();
            int answer = asked.ask(method, arguments);
            Script.due(name, call + " a second time", asked.ask(method, arguments), answer);
            Script.same(name, "what can be undone after " + call, undone(asked), undone);
        }
    }

    /** The manual, all that can be undone, step by step, and what is saved. */
    private static String undone(Script s) {
        StringBuilder seen = new StringBuilder(s.picture());
        while (s.ask("undo", "") >= 0) {
            seen.append('\n').append(s.picture());
        }
        return seen.append('\n').append(saved(s)).toString();
    }

    /** What the text makes of the manual. */
    private static String told(Script s) {
        StringBuilder seen = new StringBuilder();
        seen.append(s.ask("fault", "")).append(' ').append(s.ask("tell", "")).append(' ').append(s.picture());
        return seen.append('\n').append(saved(s)).toString();
    }

    private static String saved(Script s) {
        StringBuilder seen = new StringBuilder();
        for (int k = 0; k < 2; k++) {
            seen.append(s.ask("back", Integer.toString(k))).append(' ').append(s.picture()).append('\n');
        }
        return seen.toString();
    }
}
