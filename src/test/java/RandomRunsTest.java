import java.util.ArrayList;
import java.util.Collections;
import java.util.List;
import java.util.Random;

/** Runs of calls drawn by fixed seeds, each answer compared with that of the plain model. */
public final class RandomRunsTest {
    private static final String[] METHODS = {"write", "erase", "fault", "tell", "pages", "uses", "home", "ahead",
        "loosen", "move", "settle", "undo", "keep", "back", "at", "section", "term", "ring", "best", "least", "would",
        "after", "count"};
    /** How often each method is drawn, in the same sequence; texts come as a whole besides. */
    private static final int[] WEIGHTS = {2, 1, 1, 1, 4, 16, 14, 8, 3, 10, 2, 6, 2, 2, 3, 8, 8, 4, 1, 2, 2, 4, 6};
    private static final int[] FAR = {Integer.MIN_VALUE, -1000000, -33, -32, -5, -4, -3, -2, -1, 10, 11, 12, 13, 31,
        32, 33, 64, 255, 256, 1000000, Integer.MAX_VALUE};

    private final Random random;
    private final TermsFirst x = new TermsFirst();
    private final PlainModel model = new PlainModel();
    private final List<String> calls = new ArrayList<>();
    private final int mostSections;
    /** Trying all orders of ten sections takes the model too long to do it often. */
    private boolean asksForBest = true;
    private boolean isWrong = false;

    private RandomRunsTest(long seed, int mostSections) {
        random = new Random(seed);
        this.mostSections = mostSections;
    }

    public static void main(String[] args) {
        int factor = args.length > 0 ? Integer.parseInt(args[0]) : 1;
        long base = args.length > 1 ? Long.parseLong(args[1]) : 0;
        for (int i = 0; i < 600 * factor; i++) {
            new RandomRunsTest(base + i, 6).run(500);
        }
        for (int i = 0; i < 10 * factor; i++) {
            new RandomRunsTest(base + 100000 + i, 10).run(200);
        }
        for (int i = 0; i < 200 * factor; i++) {
            RandomRunsTest test = new RandomRunsTest(base + 300000 + i, 10);
            test.asksForBest = false;
            test.type("sections 10");
            test.call("tell");
            test.run(500);
        }
        for (int i = 0; i < 1500 * factor; i++) {
            new RandomRunsTest(base + 200000 + i, 10).texts();
        }
        Script.end();
    }

    private void run(int most) {
        while (calls.size() < most && !isWrong) {
            int kind = random.nextInt(40);
            if (kind == 0 && calls.size() + 130 < most) {
                type(manual());
                call("tell");
            } else if (kind == 1 && calls.size() + 130 < most) {
                type(spoilt(clauses(1 + random.nextInt(5), 4)));
                call("fault");
                call("tell");
            } else {
                drawnCall();
            }
        }
    }

    /** Texts alone, up to the length of the buffer. */
    private void texts() {
        while (calls.size() < 250 && !isWrong) {
            String text = clauses(1 + random.nextInt(random.nextInt(4) == 0 ? 26 : 6), model.count(0));
            type(random.nextBoolean() ? text : spoilt(text));
            call("fault");
            call("tell");
            compareManual();
        }
    }

    private void compareManual() {
        int n = model.count(0);
        for (int s = 0; s < n; s++) {
            call("section", s, 0);
            call("section", s, 1);
            call("section", s, 2);
            call("section", s, 3);
            call("section", s, 8);
        }
        call("count", 0);
        call("count", 10);
    }

    private void drawnCall() {
        int sum = 0;
        for (int weight : WEIGHTS) {
            sum += weight;
        }
        int drawn = random.nextInt(sum);
        int i = 0;
        while (drawn >= WEIGHTS[i]) {
            drawn -= WEIGHTS[i];
            i++;
        }
        callOf(METHODS[i]);
    }

    private void callOf(String method) {
        int n = model.count(0);
        switch (method) {
            case "write" -> call(method, number(0, 255));
            case "settle", "best", "least", "would" -> callOfBest(method, n);
            case "erase", "fault", "tell", "undo" -> call(method);
            case "pages" -> call(method, number(0, n - 1), number(1, 9));
            case "uses" -> call(method, number(0, n - 1), number(0, 11), random.nextInt(4) > 0 ? 1 : number(0, 1));
            case "home" -> call(method, number(0, 11), number(random.nextInt(5) == 0 ? -1 : 0, n - 1));
            case "ahead", "loosen", "move", "after" -> call(method, number(0, n - 1), number(0, n - 1));
            case "keep", "back" -> call(method, number(0, 1));
            case "at" -> call(method, number(0, n - 1));
            case "section" -> call(method, number(0, n - 1), number(0, 8));
            case "term" -> call(method, number(0, 11), number(0, 4));
            case "ring" -> call(method, number(-1, n));
            default -> call(method, number(0, 11));
        }
    }

    private void callOfBest(String method, int n) {
        if (!asksForBest) {
            return;
        }
        switch (method) {
            case "settle" -> call(method);
            case "best" -> call(method, number(0, n - 1));
            case "least" -> call(method, number(0, 3));
            default -> call(method, number(0, n - 1), number(0, 11));
        }
    }

    /** Mostly from least to most, now and then just outside or far away. */
    private int number(int least, int most) {
        int kind = random.nextInt(40);
        if (kind == 0) {
            return random.nextBoolean() ? least - 1 : most + 1;
        }
        if (kind == 1) {
            return FAR[random.nextInt(FAR.length)];
        }
        return least + random.nextInt(most - least + 1);
    }

    private String manual() {
        int n = 2 + random.nextInt(mostSections - 1);
        StringBuilder text = new StringBuilder("sections " + n);
        for (int i = random.nextInt(10); i > 0; i--) {
            text.append(';').append(clause(n));
        }
        return text.toString();
    }

    private String clauses(int count, int n) {
        StringBuilder text = new StringBuilder();
        for (int i = 0; i < count; i++) {
            if (i > 0) {
                text.append(blanks(0)).append(';').append(blanks(0));
            }
            if (random.nextInt(8) == 0) {
                n = 2 + random.nextInt(mostSections - 1);
                text.append("sections").append(blanks(0)).append(n);
            } else {
                text.append(clause(n));
            }
        }
        return text.toString();
    }

    private String clause(int n) {
        switch (random.nextInt(6)) {
            case 0:
                return "pages" + blanks(0) + numeral(n) + blanks(1) + (1 + random.nextInt(9));
            case 1:
                return "home" + blanks(1) + letters(1) + blanks(0) + numeral(n);
            case 2:
                return "uses" + blanks(0) + numeral(n) + blanks(0) + letters(1 + random.nextInt(12));
            case 3:
            case 4:
                return "ahead" + blanks(0) + numeral(n) + blanks(1) + numeral(n);
            default:
                List<Integer> sections = new ArrayList<>();
                for (int s = 0; s < n; s++) {
                    sections.add(s);
                }
                if (random.nextBoolean()) {
                    Collections.shuffle(sections, random);
                } else {
                    Collections.swap(sections, random.nextInt(n), random.nextInt(n));
                }
                StringBuilder order = new StringBuilder("order");
                for (int i = 0; i < n; i++) {
                    order.append(blanks(i == 0 ? 0 : 1)).append(sections.get(i));
                }
                return order.toString();
        }
    }

    private String numeral(int n) {
        return (random.nextInt(8) == 0 ? "0" : "") + random.nextInt(n);
    }

    private String letters(int count) {
        StringBuilder row = new StringBuilder();
        for (int i = 0; i < count; i++) {
            row.append((char) ('a' + random.nextInt(12)));
        }
        return row.toString();
    }

    private String blanks(int least) {
        return " ".repeat(least + (random.nextInt(4) == 0 ? random.nextInt(3) : 0));
    }

    private String spoilt(String text) {
        StringBuilder changed = new StringBuilder(text);
        String signs = " ;0123456789abclmz:/`{ABC-,\t" + (char) 0 + (char) 255;
        for (int i = random.nextInt(3); i >= 0; i--) {
            int place = random.nextInt(changed.length() + 1);
            char sign = signs.charAt(random.nextInt(signs.length()));
            int kind = random.nextInt(4);
            if (kind == 0 || place == changed.length()) {
                changed.insert(place, sign);
            } else if (kind == 1) {
                changed.setCharAt(place, sign);
            } else if (kind == 2 && changed.length() > 1) {
                changed.deleteCharAt(place);
            } else {
                changed.setLength(Math.max(1, place));
            }
        }
        return changed.toString();
    }

    private void type(String text) {
        call("erase");
        for (int i = 0; i < text.length() && i < 201; i++) {
            call("write", text.charAt(i));
        }
    }

    private void call(String method, int... a) {
        if (isWrong || calls.size() >= 512) {
            return;
        }
        calls.add(method + java.util.Arrays.toString(a));
        int want = modelAnswer(method, a);
        int got = answer(method, a);
        Script.due("random run", String.join(" ", got == want ? List.of() : calls), got, want);
        isWrong = got != want;
    }

    private int answer(String method, int[] a) {
        return switch (method) {
            case "write" -> x.write(a[0]);
            case "erase" -> x.erase();
            case "fault" -> x.fault();
            case "tell" -> x.tell();
            case "pages" -> x.pages(a[0], a[1]);
            case "uses" -> x.uses(a[0], a[1], a[2]);
            case "home" -> x.home(a[0], a[1]);
            case "ahead" -> x.ahead(a[0], a[1]);
            case "loosen" -> x.loosen(a[0], a[1]);
            case "move" -> x.move(a[0], a[1]);
            case "settle" -> x.settle();
            case "undo" -> x.undo();
            case "keep" -> x.keep(a[0]);
            case "back" -> x.back(a[0]);
            case "at" -> x.at(a[0]);
            case "section" -> x.section(a[0], a[1]);
            case "term" -> x.term(a[0], a[1]);
            case "ring" -> x.ring(a[0]);
            case "best" -> x.best(a[0]);
            case "least" -> x.least(a[0]);
            case "would" -> x.would(a[0], a[1]);
            case "after" -> x.after(a[0], a[1]);
            default -> x.count(a[0]);
        };
    }

    private int modelAnswer(String method, int[] a) {
        return switch (method) {
            case "write" -> model.write(a[0]);
            case "erase" -> model.erase();
            case "fault" -> model.fault();
            case "tell" -> model.tell();
            case "pages" -> model.pages(a[0], a[1]);
            case "uses" -> model.uses(a[0], a[1], a[2]);
            case "home" -> model.home(a[0], a[1]);
            case "ahead" -> model.ahead(a[0], a[1]);
            case "loosen" -> model.loosen(a[0], a[1]);
            case "move" -> model.move(a[0], a[1]);
            case "settle" -> model.settle();
            case "undo" -> model.undo();
            case "keep" -> model.keep(a[0]);
            case "back" -> model.back(a[0]);
            case "at" -> model.at(a[0]);
            case "section" -> model.section(a[0], a[1]);
            case "term" -> model.term(a[0], a[1]);
            case "ring" -> model.ring(a[0]);
            case "best" -> model.best(a[0]);
            case "least" -> model.least(a[0]);
            case "would" -> model.would(a[0], a[1]);
            case "after" -> model.after(a[0], a[1]);
            default -> model.count(a[0]);
        };
    }
}
