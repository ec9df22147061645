import java.util.ArrayList;
import java.util.Arrays;
import java.util.List;

/** A new object and a new plain model that get the same calls and must give the same answers. */
final class Pair {
    /** The document promises nothing beyond these many calls of an object. */
    static final int MOST_CALLS = 512;

    final PlainModel model = new PlainModel();
    private final String name;
    private final TermsFirst x = new TermsFirst();
    private final List<String> calls = new ArrayList<>();
    private boolean isWrong = false;

    Pair(String name) {
        this.name = name;
    }

    int calls() {
        return calls.size();
    }

    /** After a wrong answer, or all the calls that are promised, no more are made. */
    boolean isOver() {
        return isWrong || calls.size() >= MOST_CALLS;
    }

    void call(String method, int... a) {
        if (isOver()) {
            return;
        }
        calls.add(method + Arrays.toString(a));
        int want = modelAnswer(method, a);
        int got = answer(method, a);
        Script.due(name, String.join(" ", got == want ? List.of() : calls), got, want);
        isWrong = got != want;
    }

    /** Empties the text and writes another. */
    void type(String text) {
        call("erase");
        for (int i = 0; i < text.length() && i < 201; i++) {
            call("write", text.charAt(i));
        }
    }

    private int answer(String method, int[] a) {
        return switch (method) {
            case "write" -> x.write(a[0]);
            case "erase" -> x.erase();
            case "fault" -> x.fault();
            case "tell" -> x.tell();
            case "pages" -> x.pages(a[0], a[1]);
            case "uses" -> x.uses(a[0], a[1], a[2]);
            case "home" -> x.home(a[0], a[1]);
            case "ahead" -> x.ahead(a[0], a[1]);
            case "loosen" -> x.loosen(a[0], a[1]);
            case "move" -> x.move(a[0], a[1]);
            case "settle" -> x.settle();
            case "undo" -> x.undo();
            case "keep" -> x.keep(a[0]);
            case "back" -> x.back(a[0]);
            case "at" -> x.at(a[0]);
            case "section" -> x.section(a[0], a[1]);
            case "term" -> x.term(a[0], a[1]);
            case "ring" -> x.ring(a[0]);
            case "best" -> x.best(a[0]);
            case "least" -> x.least(a[0]);
            case "would" -> x.would(a[0], a[1]);
            case "after" -> x.after(a[0], a[1]);
            default -> x.count(a[0]);
        };
    }

    private int modelAnswer(String method, int[] a) {
        return switch (method) {
            case "write" -> model.write(a[0]);
            case "erase" -> model.erase();
            case "fault" -> model.fault();
            case "tell" -> model.tell();
            case "pages" -> model.pages(a[0], a[1]);
            case "uses" -> model.uses(a[0], a[1], a[2]);
            case "home" -> model.home(a[0], a[1]);
            case "ahead" -> model.ahead(a[0], a[1]);
            case "loosen" -> model.loosen(a[0], a[1]);
            case "move" -> model.move(a[0], a[1]);
            case "settle" -> model.settle();
            case "undo" -> model.undo();
            case "keep" -> model.keep(a[0]);
            case "back" -> model.back(a[0]);
            case "at" -> model.at(a[0]);
            case "section" -> model.section(a[0], a[1]);
            case "term" -> model.term(a[0], a[1]);
            case "ring" -> model.ring(a[0]);
            case "best" -> model.best(a[0]);
            case "least" -> model.least(a[0]);
            case "would" -> model.would(a[0], a[1]);
            case "after" -> model.after(a[0], a[1]);
            default -> model.count(a[0]);
        };
    }
}
