import java.util.function.Consumer;

/**
 * Every method with every argument at, just below and just above each bound that an argument has somewhere in the
 * document, at powers of two and at the ends of int: none may throw, and all answers must be the plain model's.
 */
public final class ArgumentGridTest {
    private static final int[] GRID = {Integer.MIN_VALUE, Integer.MIN_VALUE + 1, -65536, -257, -256, -255, -33, -32,
        -31, -12, -10, -6, -5, -4, -3, -2, -1, 0, 1, 2, 3, 4, 5, 7, 8, 9, 10, 11, 12, 13, 15, 16, 31, 32, 33, 64, 199,
        200, 201, 254, 255, 256, 257, 65536, Integer.MAX_VALUE - 1, Integer.MAX_VALUE};
    private static final String[] OF_ONE = {"write", "keep", "back", "at", "ring", "best", "least", "count"};
    private static final String[] OF_TWO = {"pages", "home", "ahead", "loosen", "move", "section", "term", "would",
        "after"};
    private static final int[] SWITCHES = {Integer.MIN_VALUE, -2, -1, 0, 1, 2, 3, Integer.MAX_VALUE};

    private final String name;
    private final Consumer<Pair> preparation;
    private Pair pair;

    private ArgumentGridTest(String name, Consumer<Pair> preparation) {
        this.name = name;
        this.preparation = preparation;
    }

    public static void main(String[] args) {
        new ArgumentGridTest("a new object", pair -> { }).run();
        new ArgumentGridTest("two sections", pair -> tell(pair, "sections 2;home a 1;uses 0 a")).run();
        new ArgumentGridTest("four sections with a precedence", pair -> {
            tell(pair, "home a 3;uses 0 a;home b 0;uses 3 b;order 2 0 3 1;ahead 0 3");
            pair.call("keep", 1);
        }).run();
        new ArgumentGridTest("ten sections in a chain", pair -> tell(pair, "sections 10;ahead0 1;ahead1 2;ahead2 3;"
                + "ahead3 4;ahead4 5;ahead5 6;ahead6 7;ahead7 8;home a9;uses0al;home l8;uses9a")).run();
        new ArgumentGridTest("a full text", pair -> pair.type("x".repeat(200))).run();
        Script.end();
    }

    private static void tell(Pair pair, String text) {
        pair.type(text);
        pair.call("tell");
    }

    private void run() {
        for (String method : OF_ONE) {
            begin();
            for (int a : GRID) {
                call(method, a);
            }
        }
        for (String method : OF_TWO) {
            begin();
            for (int a : GRID) {
                for (int b : GRID) {
                    call(method, a, b);
                }
            }
        }
        begin();
        for (int section : GRID) {
            for (int term : GRID) {
                for (int on : SWITCHES) {
                    call("uses", section, term, on);
                }
            }
        }
    }

    private void begin() {
        pair = new Pair(name);
        preparation.accept(pair);
    }

    private void call(String method, int... arguments) {
        if (pair.calls() >= Pair.MOST_CALLS) {
            begin();
        }
        pair.call(method, arguments);
    }
}
