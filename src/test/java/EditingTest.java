/** Promises 6 to 11 and 13 to 15: pages, uses, home, ahead, loosen, move, undo, keep, back. */
public final class EditingTest {
    public static void main(String[] args) {
        pages();
        uses();
        home();
        aheadAndLoosen();
        move();
        undo();
        undoOfEachKind();
        savedStates();
        Script.end();
    }

    private static void pages() {
        new Script("pages").run("pages(0, 9) = 1; pages(0, 1) = 9; pages(0, 4) = 1; pages(3, 2) = 1;"
                + "section(0, 1) = 4; section(3, 1) = 2; section(1, 1) = 1; count(11) = 8; count(9) = 4;"
                + "pages(0, 0) = -3; pages(0, 10) = -3; pages(0, -1) = -3; pages(4, 1) = -2; pages(-1, 1) = -2;"
                + "pages(4, 0) = -2; pages(2147483647, 1) = -2; pages(-2147483648, 10) = -2;"
                + "pages(0, 2147483647) = -3; count(9) = 4; count(11) = 8");
    }

    private static void uses() {
        new Script("uses").run("uses(0, 0, 1) = 1; uses(0, 0, 1) = 0; uses(0, 11, 1) = 1; uses(3, 11, 1) = 1;"
                + "uses(3, 0, 0) = 0; section(0, 2) = 2049; section(3, 2) = 2048; term(11, 1) = 9; term(0, 1) = 1;"
                + "count(4) = 3; count(9) = 5; uses(0, 11, 0) = 1; term(11, 1) = 8; count(4) = 2;"
                + "uses(4, 0, 1) = -2; uses(-1, 0, 1) = -2; uses(0, 12, 1) = -2; uses(0, -1, 1) = -2;"
                + "uses(0, 0, 2) = -3; uses(0, 0, -1) = -3; uses(4, 0, 2) = -2; uses(0, 12, -1) = -2;"
                + "uses(2147483647, 0, 1) = -2; uses(0, 2147483647, 1) = -2; uses(0, 32, 1) = -2;"
                + "uses(0, -2147483648, 0) = -2; count(9) = 6; count(4) = 2");
    }

    private static void home() {
        new Script("home").run("home(0, 3) = -1; home(0, 1) = 3; home(0, 1) = 1; home(11, 1) = -1; term(0, 0) = 1;"
                + "section(1, 3) = 2049; section(3, 3) = 0; count(3) = 2; home(0, -1) = 1; home(0, -1) = -1;"
                + "term(0, 0) = -1; section(1, 3) = 2048; count(3) = 1; count(9) = 6; home(12, 0) = -2;"
                + "home(-1, 0) = -2; home(0, 4) = -2; home(0, -2) = -2; home(12, -1) = -2; home(12, 4) = -2;"
                + "home(0, 2147483647) = -2; home(-2147483648, 0) = -2; count(9) = 6; count(3) = 1");
    }

    private static void aheadAndLoosen() {
        new Script("ahead and loosen").run("ahead(0, 1) = 1; ahead(0, 1) = -4; ahead(1, 0) = -4; ahead(0, 3) = 2;"
                + "ahead(2, 3) = 3; section(3, 8) = 5; section(1, 8) = 1; section(0, 8) = 0; count(6) = 3;"
                + "ahead(0, 0) = -2; ahead(4, 0) = -2; ahead(0, 4) = -2; ahead(-1, 0) = -2; ahead(0, -1) = -2;"
                + "ahead(4, 4) = -2; ahead(-2147483648, 2147483647) = -2; count(9) = 3;"
                + "loosen(1, 0) = -4; loosen(0, 0) = -4; loosen(0, 2) = -4; loosen(4, 0) = -2; loosen(0, 4) = -2;"
                + "loosen(-1, 0) = -2; loosen(0, -1) = -2; loosen(4, 4) = -2; loosen(0, 3) = 2; loosen(0, 3) = -4;"
                + "section(3, 8) = 4; count(6) = 2; loosen(2, 3) = 1; loosen(0, 1) = 0; loosen(0, 1) = -4;"
                + "count(9) = 6; count(6) = 0; undo() = 5; count(6) = 1; section(1, 8) = 1");
        new Script("precedences need not be neighbours").run("move(3, 0) = 0; ahead(3, 2) = 1; ahead(2, 3) = -4;"
                + "ahead(0, 3) = -4; ahead(3, 0) = 2; move(3, 1) = -4; move(2, 0) = -4; move(2, 1) = 0");
        StringBuilder all = new StringBuilder();
        int precedences = 0;
        for (int a = 0; a < 10; a++) {
            for (int b = a + 1; b < 10; b++) {
                all.append("ahead(" + a + ", " + b + ") = " + ++precedences + ";");
            }
        }
        new Script("all precedences").told("sections 10", 1).run(all.toString()).run("count(6) = 45;"
                + "section(9, 8) = 511; move(0, 1) = -4; after(8, 9) = -4; move(4, 4) = 0; settle() = 0")
                .bestIs(0, 1, 2, 3, 4, 5, 6, 7, 8, 9);
    }

    private static void move() {
        new Script("move").run("move(0, 3) = 0").ordered(1, 2, 3, 0).run("move(3, 0) = 0").ordered(3, 1, 2, 0)
                .run("move(1, 2) = 0").ordered(3, 2, 1, 0).run("move(2, 1) = 0").ordered(3, 2, 1, 0)
                .run("count(9) = 4; move(4, 0) = -2; move(-1, 0) = -2; move(0, 4) = -2; move(0, -1) = -2;"
                        + "move(2147483647, 0) = -2; move(0, -2147483648) = -2; count(9) = 4")
                .ordered(3, 2, 1, 0);
        new Script("notes after a move").run("uses(1, 0, 1) = 1; uses(1, 1, 1) = 1; uses(2, 1, 1) = 1;"
                + "home(0, 0) = -1; home(1, 3) = -1; count(1) = 1; move(0, 2) = 2; move(3, 0) = 1;"
                + "move(0, 0) = 0; move(1, 3) = 0").ordered(0, 3, 2, 1);
        new Script("a move that a precedence forbids").run("ahead(1, 2) = 1; move(1, 2) = -4; move(2, 1) = -4;"
                + "move(2, 0) = -4; move(1, 3) = -4; after(1, 3) = -4; move(4, 2) = -2; count(9) = 1")
                .ordered(0, 1, 2, 3).run("move(1, 0) = 0; move(2, 3) = 0; move(3, 1) = 0").ordered(1, 3, 0, 2);
        new Script("after").run("uses(0, 0, 1) = 1; home(0, 1) = -1; after(0, 1) = 0; after(0, 0) = 1;"
                + "after(1, 0) = 0; after(3, 0) = 1; after(4, 0) = -2; after(0, 4) = -2; after(-1, 0) = -2;"
                + "after(0, -1) = -2; count(9) = 2; ahead(0, 1) = 1; after(0, 1) = -4; after(0, 0) = 1;"
                + "after(1, 3) = 1; after(4, 1) = -2; after(2147483647, -2147483648) = -2").ordered(0, 1, 2, 3);
    }

    private static void undo() {
        Script s = new Script("the latest 8").run("undo() = -4");
        for (int i = 2; i <= 9; i++) {
            s.run("pages(0, " + i + ") = " + (i - 1) + "; count(9) = " + (i - 1));
        }
        s.run("pages(1, 2) = 1; pages(1, 3) = 2; count(9) = 8");
        s.run("undo() = 7; section(1, 1) = 2; undo() = 6; section(1, 1) = 1; section(0, 1) = 9; undo() = 5;"
                + "section(0, 1) = 8; undo() = 4; undo() = 3; undo() = 2; undo() = 1; undo() = 0;"
                + "section(0, 1) = 3; undo() = -4; count(9) = 0; section(0, 1) = 3");
        new Script("calls that change nothing").run("pages(0, 1) = 1; uses(0, 0, 0) = 0; home(0, -1) = -1;"
                + "move(0, 0) = 0; settle() = 0; count(9) = 5; undo() = 4; undo() = 3; undo() = 2; undo() = 1;"
                + "undo() = 0; undo() = -4");
        new Script("calls after an undo").run("pages(0, 2) = 1; pages(0, 3) = 2; undo() = 1; pages(0, 5) = 2;"
                + "count(9) = 2; undo() = 1; section(0, 1) = 2; undo() = 0; section(0, 1) = 1; undo() = -4");
        Script round = new Script("round and round");
        for (int i = 0; i < 13; i++) {
            round.run("move(0, 1) = 0; move(0, 0) = 0; undo() = " + Math.min(i + 1, 7)).ordered(1, 0, 2, 3)
                    .run("move(0, 0) = 0; count(9) = " + Math.min(i + 2, 8)).ordered(0, 1, 2, 3)
                    .run("undo() = " + Math.min(i + 1, 7));
        }
        new Script("what cannot be undone").run("keep(0) = 0; write(65) = 1; erase() = 1; after(0, 1) = 0;"
                + "would(0, 0) = 0; best(0) = 0; count(9) = 0; undo() = -4");
    }

    private static void undoOfEachKind() {
        new Script("undo of each kind").run("pages(0, 5) = 1; uses(0, 1, 1) = 1; home(1, 2) = -1; ahead(0, 3) = 1;"
                + "loosen(0, 3) = 0; move(1, 3) = 1; settle() = 1; count(9) = 7").ordered(2, 0, 3, 1)
                .run("undo() = 6").ordered(0, 2, 3, 1).run("undo() = 5").ordered(0, 1, 2, 3)
                .run("count(6) = 0; undo() = 4; count(6) = 1; section(3, 8) = 1; undo() = 3; count(6) = 0;"
                        + "term(1, 0) = 2; undo() = 2; term(1, 0) = -1; section(0, 2) = 2; undo() = 1;"
                        + "section(0, 2) = 0; section(0, 1) = 5; undo() = 0; section(0, 1) = 1; undo() = -4");
    }

    private static void savedStates() {
        new Script("saved states").run("keep(-1) = -3; keep(2) = -3; back(-1) = -3; back(2) = -3; back(0) = -4;"
                + "keep(2147483647) = -3; back(-2147483648) = -3; uses(0, 0, 1) = 1; home(0, 2) = -1; keep(0) = 1;"
                + "back(1) = -4; count(9) = 2; pages(1, 7) = 1; ahead(0, 1) = 1; move(2, 0) = 0; keep(1) = 0;"
                + "count(9) = 5; back(0) = 1; count(9) = 0; undo() = -4; count(6) = 0; section(1, 1) = 1")
                .ordered(0, 1, 2, 3).run("pages(0, 3) = 1; back(0) = 1; section(0, 1) = 1; back(1) = 0;"
                        + "section(1, 1) = 7; count(6) = 1; section(1, 8) = 1; term(0, 0) = 2; section(0, 2) = 1")
                .ordered(2, 0, 1, 3).run("keep(0) = 0; move(2, 3) = 1; back(0) = 0").ordered(2, 0, 1, 3);
        new Script("a state with another n").run("pages(3, 9) = 1; keep(1) = 0").told("sections 10;uses 9 a", 2)
                .run("keep(0) = 0; back(1) = 0; count(0) = 4; section(3, 1) = 9; section(4, 0) = -2; count(4) = 0;"
                        + "back(0) = 0; count(0) = 10; section(9, 2) = 1; section(3, 1) = 1");
        new Script("undo leaves what is saved").run("pages(0, 2) = 1; keep(0) = 0; undo() = 0; section(0, 1) = 1;"
                + "back(0) = 0; section(0, 1) = 2");
        new Script("an error of back leaves the history").run("pages(0, 2) = 1; back(0) = -4; back(2) = -3;"
                + "count(9) = 1; undo() = 0");
    }
}
