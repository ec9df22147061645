import java.util.ArrayList;
import java.util.Collections;
import java.util.List;
import java.util.Random;

/** Runs of calls drawn by fixed seeds, each answer compared with that of the plain model. */
public final class RandomRunsTest {
    private static final String[] METHODS = {"write", "erase", "fault", "tell", "pages", "uses", "home", "ahead",
        "loosen", "move", "settle", "undo", "keep", "back", "at", "section", "term", "ring", "best", "least", "would",
        "after", "count"};
    /** How often each method is drawn, in the same sequence; texts come as a whole besides. */
    private static final int[] WEIGHTS = {2, 1, 1, 1, 4, 16, 14, 8, 3, 10, 2, 6, 2, 2, 3, 8, 8, 4, 1, 2, 2, 4, 6};
    private static final int[] FAR = {Integer.MIN_VALUE, -1000000, -33, -32, -5, -4, -3, -2, -1, 10, 11, 12, 13, 31,
        32, 33, 64, 255, 256, 1000000, Integer.MAX_VALUE};

    private final Random random;
    private final Pair pair = new Pair("random run");
    private final int mostSections;
    /** Trying all orders of ten sections takes the model too long to do it often. */
    private boolean asksForBest = true;

    private RandomRunsTest(long seed, int mostSections) {
        random = new Random(seed);
        this.mostSections = mostSections;
    }

    public static void main(String[] args) {
        int factor = args.length > 0 ? Integer.parseInt(args[0]) : 1;
        long base = args.length > 1 ? Long.parseLong(args[1]) : 0;
        for (int i = 0; i < 600 * factor; i++) {
            new RandomRunsTest(base + i, 6).run(500);
        }
        for (int i = 0; i < 10 * factor; i++) {
            new RandomRunsTest(base + 100000 + i, 10).run(200);
        }
        for (int i = 0; i < 200 * factor; i++) {
            RandomRunsTest test = new RandomRunsTest(base + 300000 + i, 10);
            test.asksForBest = false;
            test.pair.type("sections 10");
            test.pair.call("tell");
            test.run(500);
        }
        for (int i = 0; i < 1500 * factor; i++) {
            new RandomRunsTest(base + 200000 + i, 10).texts();
        }
        Script.end();
    }

    private void run(int most) {
        while (pair.calls() < most && !pair.isOver()) {
            int kind = random.nextInt(40);
            if (kind == 0 && pair.calls() + 130 < most) {
                pair.type(manual());
                pair.call("tell");
            } else if (kind == 1 && pair.calls() + 130 < most) {
                pair.type(spoilt(clauses(1 + random.nextInt(5), 4)));
                pair.call("fault");
                pair.call("tell");
            } else {
                drawnCall();
            }
        }
    }

    /** Texts alone, up to the length of the buffer. */
    private void texts() {
        while (pair.calls() < 250 && !pair.isOver()) {
            String text = clauses(1 + random.nextInt(random.nextInt(4) == 0 ? 26 : 6), pair.model.count(0));
            pair.type(random.nextBoolean() ? text : spoilt(text));
            pair.call("fault");
            pair.call("tell");
            compareManual();
        }
    }

    private void compareManual() {
        int n = pair.model.count(0);
        for (int s = 0; s < n; s++) {
            pair.call("section", s, 0);
            pair.call("section", s, 1);
            pair.call("section", s, 2);
            pair.call("section", s, 3);
            pair.call("section", s, 8);
        }
        pair.call("count", 0);
        pair.call("count", 10);
    }

    private void drawnCall() {
        int sum = 0;
        for (int weight : WEIGHTS) {
            sum += weight;
        }
        int drawn = random.nextInt(sum);
        int i = 0;
        while (drawn >= WEIGHTS[i]) {
            drawn -= WEIGHTS[i];
            i++;
        }
        callOf(METHODS[i]);
    }

    private void callOf(String method) {
        int n = pair.model.count(0);
        switch (method) {
            case "write" -> pair.call(method, number(0, 255));
            case "settle", "best", "least", "would" -> callOfBest(method, n);
            case "erase", "fault", "tell", "undo" -> pair.call(method);
            case "pages" -> pair.call(method, number(0, n - 1), number(1, 9));
            case "uses" -> pair.call(method, number(0, n - 1), number(0, 11), random.nextInt(4) > 0 ? 1 : number(0, 1));
            case "home" -> pair.call(method, number(0, 11), number(random.nextInt(5) == 0 ? -1 : 0, n - 1));
            case "ahead", "loosen", "move", "after" -> pair.call(method, number(0, n - 1), number(0, n - 1));
            case "keep", "back" -> pair.call(method, number(0, 1));
            case "at" -> pair.call(method, number(0, n - 1));
            case "section" -> pair.call(method, number(0, n - 1), number(0, 8));
            case "term" -> pair.call(method, number(0, 11), number(0, 4));
            case "ring" -> pair.call(method, number(-1, n));
            default -> pair.call(method, number(0, 11));
        }
    }

    private void callOfBest(String method, int n) {
        if (!asksForBest) {
            return;
        }
        switch (method) {
            case "settle" -> pair.call(method);
            case "best" -> pair.call(method, number(0, n - 1));
            case "least" -> pair.call(method, number(0, 3));
            default -> pair.call(method, number(0, n - 1), number(0, 11));
        }
    }

    /** Mostly from least to most, now and then just outside or far away. */
    private int number(int least, int most) {
        int kind = random.nextInt(40);
        if (kind == 0) {
            return random.nextBoolean() ? least - 1 : most + 1;
        }
        if (kind == 1) {
            return FAR[random.nextInt(FAR.length)];
        }
        return least + random.nextInt(most - least + 1);
    }

    private String manual() {
        int n = 2 + random.nextInt(mostSections - 1);
        StringBuilder text = new StringBuilder("sections " + n);
        for (int i = random.nextInt(10); i > 0; i--) {
            text.append(';').append(clause(n));
        }
        return text.toString();
    }

    private String clauses(int count, int n) {
        StringBuilder text = new StringBuilder();
        for (int i = 0; i < count; i++) {
            if (i > 0) {
                text.append(blanks(0)).append(';').append(blanks(0));
            }
            if (random.nextInt(8) == 0) {
                n = 2 + random.nextInt(mostSections - 1);
                text.append("sections").append(blanks(0)).append(n);
            } else {
                text.append(clause(n));
            }
        }
        return text.toString();
    }

    private String clause(int n) {
        switch (random.nextInt(6)) {
            case 0:
                return "pages" + blanks(0) + numeral(n) + blanks(1) + (1 + random.nextInt(9));
            case 1:
                return "home" + blanks(1) + letters(1) + blanks(0) + numeral(n);
            case 2:
                return "uses" + blanks(0) + numeral(n) + blanks(0) + letters(1 + random.nextInt(12));
            case 3:
            case 4:
                return "ahead" + blanks(0) + numeral(n) + blanks(1) + numeral(n);
            default:
                List<Integer> sections = new ArrayList<>();
                for (int s = 0; s < n; s++) {
                    sections.add(s);
                }
                if (random.nextBoolean()) {
                    Collections.shuffle(sections, random);
                } else {
                    Collections.swap(sections, random.nextInt(n), random.nextInt(n));
                }
                StringBuilder order = new StringBuilder("order");
                for (int i = 0; i < n; i++) {
                    order.append(blanks(i == 0 ? 0 : 1)).append(sections.get(i));
                }
                return order.toString();
        }
    }

    private String numeral(int n) {
        return (random.nextInt(8) == 0 ? "0" : "") + random.nextInt(n);
    }

    private String letters(int count) {
        StringBuilder row = new StringBuilder();
        for (int i = 0; i < count; i++) {
            row.append((char) ('a' + random.nextInt(12)));
        }
        return row.toString();
    }

    private String blanks(int least) {
        return " ".repeat(least + (random.nextInt(4) == 0 ? random.nextInt(3) : 0));
    }

    private String spoilt(String text) {
        StringBuilder changed = new StringBuilder(text);
        String signs = " ;0123456789abclmz:/`{ABC-,\t" + (char) 0 + (char) 255;
        for (int i = random.nextInt(3); i >= 0; i--) {
            int place = random.nextInt(changed.length() + 1);
            char sign = signs.charAt(random.nextInt(signs.length()));
            int kind = random.nextInt(4);
            if (kind == 0 || place == changed.length()) {
                changed.insert(place, sign);
            } else if (kind == 1) {
                changed.setCharAt(place, sign);
            } else if (kind == 2 && changed.length() > 1) {
                changed.deleteCharAt(place);
            } else {
                changed.setLength(Math.max(1, place));
            }
        }
        return changed.toString();
    }
}
