/**
 * The edges that the promises themselves name, one promise after the other. Each run is named by the promise and
 * the words that it tests, quoted; behind a slash stands which of their edges.
 */
public final class PromiseEdgesTest {
    private static final String FAR = "2147483647", NEAR = "-2147483648";

    public static void main(String[] args) {
        newObject();
        write();
        erase();
        fault();
        tell();
        tellLastsAndCounts();
        pages();
        uses();
        home();
        ahead();
        loosen();
        move();
        moveThatIsRefused();
        settle();
        undo();
        keep();
        back();
        at();
        sectionArguments();
        sectionSets();
        sectionsFirstAndLast();
        termArguments();
        termValues();
        ring();
        best();
        least();
        would();
        after();
        countArguments();
        countExtremes();
        countValues();
        Script.end();
    }

    // ---- promises 1 to 5

    private static void newObject() {
        new Script("1: Creates a manual with four sections").run("count(0) = 4; section(3, 1) = 1; section(4, 1) = -2;"
                + "count(11) = 4").ordered(0, 1, 2, 3);
        new Script("1: without uses, homes and precedences").run("count(4) = 0; count(3) = 0; count(6) = 0;"
                + "count(1) = 0; count(2) = 0; count(5) = 0; count(7) = 0; count(8) = 0");
        new Script("1: with an empty text").run("count(10) = 0; fault() = 0; erase() = 0; write(0) = 1");
        new Script("1: / nothing can be undone and nothing is saved").run("undo() = -4; count(9) = 0; back(0) = -4;"
                + "back(1) = -4");
        Script one = new Script("1: / of two objects each has its own manual").run("pages(0, 5) = 1; keep(0) = 0;"
                + "write(65) = 1");
        new Script("1: / of two objects each has its own manual").run("section(0, 1) = 1; back(0) = -4;"
                + "count(10) = 0; undo() = -4; pages(0, 7) = 1; keep(0) = 0");
        one.run("section(0, 1) = 5; back(0) = 0; section(0, 1) = 5; count(10) = 1");
    }

    private static void write() {
        new Script("2: the byte, 0 to 255").run("write(0) = 1; write(255) = 2; write(1) = 3; write(254) = 4");
        new Script("2: OUTSIDE if letter is out of range").run("write(-1) = -3; write(256) = -3; write(" + FAR + ") = -3;"
                + "write(" + NEAR + ") = -3; count(10) = 0; write(65) = 1; write(256) = -3; count(10) = 1");
        new Script("2: OUTSIDE if letter is out of range / the text stays as it is").type("pages 0")
                .run("write(288) = -3; write(-224) = -3; write(32) = 8; write(307) = -3; write(51) = 9; fault() = -1;"
                        + "tell() = 1; section(0, 1) = 3");
        new Script("2: FULL if the text has 200 bytes").type("a".repeat(199)).run("write(97) = 200; write(97) = -5;"
                + "write(0) = -5; write(255) = -5; count(10) = 200; erase() = 200; write(97) = 1");
        new Script("2: Returns the length of the text / from 1 to 200").type(" ".repeat(200));
        new Script("2: Appends a byte to the text / behind the others").type("pages 0 1").run("write(49) = 10;"
                + "fault() = 8; write(49) = 11; fault() = 8; erase() = 11").type("pages 0 1;pages 1 2")
                .run("tell() = 2; section(1, 1) = 2");
    }

    private static void erase() {
        new Script("3: Empties the text / an empty one").run("erase() = 0; erase() = 0; count(10) = 0");
        new Script("3: Returns the length that it had").run("erase() = 0; write(0) = 1; erase() = 1; write(0) = 1;"
                + "write(0) = 2; erase() = 2; erase() = 0").type(" ".repeat(200)).run("erase() = 200");
        new Script("3: Empties the text / a full one").type(";".repeat(200)).run("erase() = 200; count(10) = 0;"
                + "erase() = 0; fault() = 0; write(59) = 1; erase() = 1");
        new Script("3: Empties the text / nothing of it comes back").type("pages 0 2;pages 1 3").run("erase() = 19")
                .type("pages 0 4").run("fault() = -1; tell() = 1; section(0, 1) = 4; section(1, 1) = 1");
        new Script("3: Empties the text / and nothing else").run("pages(0, 2) = 1; keep(0) = 0; write(9) = 1;"
                + "erase() = 1; count(9) = 1; section(0, 1) = 2; back(0) = 0");
    }

    private static void fault() {
        new Script("4: Returns the fault; NONE if the text has none").run("fault() = 0").type("pages 0 1")
                .run("fault() = -1; fault() = -1; write(59) = 10; fault() = 10; fault() = 10");
        new Script("4: Checks the text for the present manual").run("keep(0) = 0").told("sections 10", 1)
                .type("pages 9 1").run("fault() = -1; keep(1) = 0; back(0) = 0; fault() = 6; tell() = -4; back(1) = 0;"
                        + "fault() = -1; tell() = 1");
        new Script("4: Checks the text for the present manual / which stays as it is").run("pages(0, 2) = 1")
                .type("sections 3;pages 0 9;uses 0 a;home a 2;ahead 0 1;order 2 0 1").run("fault() = -1; count(0) = 4;"
                        + "section(0, 1) = 2; count(4) = 0; count(3) = 0; count(6) = 0; count(9) = 1; count(10) = 60")
                .ordered(0, 1, 2, 3);
    }

    private static void tell() {
        new Script("5: NOT if the text has a fault / it is empty").run("pages(0, 2) = 1; tell() = -4; count(9) = 1;"
                + "erase() = 0; tell() = -4");
        new Script("5: NOT if the text has a fault / text, manual and history stay").run("pages(0, 2) = 1")
                .type("pages 0 9;pages 4 1").run("tell() = -4; count(10) = 19; section(0, 1) = 2; count(9) = 1;"
                        + "fault() = 16; undo() = 0; section(0, 1) = 1");
        new Script("5: NOT if the text has a fault / in the 24th clause").type("pages 0 9;" + "uses0a;".repeat(22)
                + "uses4a").run("tell() = -4; section(0, 1) = 1; count(4) = 0; count(10) = 170");
        new Script("5: Carries out the clauses of the text, in their order / the last one wins")
                .told("pages 0 2;pages 0 3;home a 0;home a 1", 4).run("section(0, 1) = 3; term(0, 0) = 1")
                .told("pages 0 9;sections 4", 2).run("section(0, 1) = 1; term(0, 0) = -1")
                .told("sections 4;pages 0 9", 2).run("section(0, 1) = 9");
        new Script("5: Carries out the clauses of the text, in their order / order and ahead")
                .told("ahead 0 1;order 1 0 2 3", 2).ordered(0, 1, 2, 3).told("sections 4;order 1 0 2 3;ahead 0 1", 3)
                .ordered(1, 0, 2, 3).run("count(6) = 0");
    }

    private static void tellLastsAndCounts() {
        new Script("5: and empties it").type("pages 0 2").run("tell() = 1; count(10) = 0; tell() = -4; fault() = 0;"
                + "erase() = 0; write(65) = 1");
        new Script("5: Nothing can be undone then").run("pages(0, 2) = 1; pages(1, 2) = 1").type("pages 0 5")
                .run("tell() = 1; count(9) = 0; undo() = -4; section(0, 1) = 5; section(1, 1) = 2");
        new Script("5: Nothing can be undone then / also if the clauses change nothing")
                .run("ahead(0, 1) = 1").type("ahead 0 1;order 1 0 2 3").run("tell() = 2; undo() = -4; count(6) = 1");
        new Script("5: Nothing can be undone then / after a full history").run("pages(0, 2) = 1; pages(0, 3) = 2;"
                + "pages(0, 4) = 3; pages(0, 5) = 4; pages(0, 6) = 5; pages(0, 7) = 6; pages(0, 8) = 7; pages(0, 9) = 8;"
                + "pages(0, 1) = 9").type("uses0a").run("tell() = 1; count(9) = 0; undo() = -4; pages(0, 3) = 1;"
                + "count(9) = 1; undo() = 0; section(0, 1) = 1; undo() = -4");
        new Script("5: Returns the number of clauses / 1, 2, 24").told("uses0a", 1).told("uses0a;uses0a", 2)
                .told("uses0a;".repeat(23) + "uses0a", 24);
    }

    // ---- promises 6 to 12

    private static void pages() {
        new Script("6: the new number, 1 to 9").run("pages(0, 1) = 1; pages(0, 9) = 1; section(0, 1) = 9;"
                + "pages(0, 1) = 9; section(0, 1) = 1");
        new Script("6: OUTSIDE if l is out of range").run("pages(0, 0) = -3; pages(0, 10) = -3; pages(0, -1) = -3;"
                + "pages(3, " + FAR + ") = -3; pages(3, " + NEAR + ") = -3; count(11) = 4; count(9) = 0");
        new Script("6: UNKNOWN if there is no such section").run("pages(4, 1) = -2; pages(-1, 1) = -2;"
                + "pages(" + FAR + ", 1) = -2; pages(" + NEAR + ", 1) = -2; pages(9, 1) = -2; count(11) = 4;"
                + "count(9) = 0").told("sections 10", 1).run("pages(9, 2) = 1; pages(10, 2) = -2; count(11) = 11");
        new Script("6: Returns the number that it had").run("pages(3, 7) = 1; pages(3, 7) = 7; pages(3, 2) = 7;"
                + "pages(2, 7) = 1; undo() = 3; undo() = 2; pages(3, 1) = 7");
        new Script("6: Can be undone").run("pages(3, 9) = 1; undo() = 0; section(3, 1) = 1");
    }

    private static void uses() {
        new Script("7: the term, 0 to 11").run("uses(0, 0, 1) = 1; uses(0, 11, 1) = 1; section(0, 2) = 2049;"
                + "uses(3, 11, 1) = 1; term(11, 1) = 9");
        new Script("7: 1 if it uses it from now on, 0 if not").run("uses(0, 5, 1) = 1; section(0, 2) = 32;"
                + "uses(0, 5, 0) = 1; section(0, 2) = 0; uses(0, 5, 1) = 1; uses(0, 4, 0) = 0; section(0, 2) = 32");
        new Script("7: Returns 1 if this is different from before, 0 if not").run("uses(0, 0, 0) = 0;"
                + "uses(0, 0, 1) = 1; uses(0, 0, 1) = 0; uses(1, 0, 1) = 1; uses(0, 0, 0) = 1; uses(0, 0, 0) = 0");
        new Script("7: UNKNOWN if there is no such section or term").run("uses(4, 0, 1) = -2; uses(-1, 0, 1) = -2;"
                + "uses(0, 12, 1) = -2; uses(0, -1, 1) = -2; uses(" + FAR + ", 0, 1) = -2; uses(0, " + FAR + ", 1) = -2;"
                + "uses(" + NEAR + ", 0, 0) = -2; uses(0, " + NEAR + ", 0) = -2; uses(0, 31, 1) = -2;"
                + "uses(0, 32, 1) = -2; uses(0, -32, 1) = -2; count(4) = 0; count(9) = 0");
        new Script("7: OUTSIDE if on is not 0 or 1").run("uses(0, 0, 2) = -3; uses(0, 0, -1) = -3;"
                + "uses(0, 0, " + FAR + ") = -3; uses(0, 0, " + NEAR + ") = -3; count(4) = 0; count(9) = 0;"
                + "uses(0, 0, 1) = 1; uses(0, 0, 2) = -3; uses(0, 0, -1) = -3; section(0, 2) = 1");
        new Script("7: Can be undone").run("uses(3, 11, 1) = 1; uses(3, 11, 0) = 1; undo() = 1; section(3, 2) = 2048;"
                + "undo() = 0; section(3, 2) = 0");
    }

    private static void home() {
        new Script("8: the section, or NONE if it has no home from now on").run("home(0, 0) = -1; home(11, 3) = -1;"
                + "count(3) = 2; home(11, -1) = 3; term(11, 0) = -1; count(3) = 1; home(11, -1) = -1; count(3) = 1");
        new Script("8: Returns the home that it had, NONE if it had none").run("home(0, 0) = -1; home(0, 3) = 0;"
                + "home(0, 3) = 3; home(0, -1) = 3; home(0, -1) = -1; home(0, 1) = -1");
        new Script("8: UNKNOWN if there is no such term or section").run("home(12, 0) = -2; home(-1, 0) = -2;"
                + "home(0, 4) = -2; home(0, -2) = -2; home(12, -1) = -2; home(-1, -1) = -2; home(12, 4) = -2;"
                + "home(" + FAR + ", 0) = -2; home(" + NEAR + ", 0) = -2; home(0, " + FAR + ") = -2;"
                + "home(0, " + NEAR + ") = -2; count(3) = 0; count(9) = 0").told("sections 10", 1)
                .run("home(0, 9) = -1; home(0, 10) = -2; term(0, 0) = 9");
        new Script("8: Can be undone").run("home(11, 3) = -1; home(11, -1) = 3; undo() = 1; term(11, 0) = 3;"
                + "undo() = 0; term(11, 0) = -1");
    }

    private static void ahead() {
        new Script("9: UNKNOWN if there is no such section or both are the same").run("ahead(4, 0) = -2;"
                + "ahead(0, 4) = -2; ahead(-1, 0) = -2; ahead(0, -1) = -2; ahead(0, 0) = -2; ahead(3, 3) = -2;"
                + "ahead(4, 4) = -2; ahead(-1, -1) = -2; ahead(" + FAR + ", 0) = -2; ahead(0, " + FAR + ") = -2;"
                + "ahead(" + NEAR + ", 0) = -2; ahead(0, " + NEAR + ") = -2; count(6) = 0; count(9) = 0");
        new Script("9: NOT if b comes before a in the order").run("ahead(1, 0) = -4; ahead(3, 0) = -4;"
                + "ahead(3, 2) = -4; count(6) = 0; count(9) = 0; move(3, 0) = 0; ahead(3, 2) = 1; ahead(0, 3) = -4;"
                + "ahead(2, 0) = -4; ahead(3, 0) = 2");
        new Script("9: or there is this precedence already").run("ahead(0, 3) = 1; ahead(0, 3) = -4; ahead(0, 2) = 2;"
                + "ahead(1, 3) = 3; ahead(0, 3) = -4; count(6) = 3; count(9) = 3; loosen(0, 3) = 2; ahead(0, 3) = 3");
        new Script("9: or there is this precedence already / one that follows from others is not there yet")
                .run("ahead(0, 1) = 1; ahead(1, 2) = 2; section(2, 8) = 2; ahead(0, 2) = 3; section(2, 8) = 3");
        Script s = new Script("9: Returns the number of precedences / up to all 45 of ten sections")
                .told("sections 10", 1);
        int number = 0;
        for (int b = 1; b < 10; b++) {
            for (int a = 0; a < b; a++) {
                s.run("ahead(" + a + ", " + b + ") = " + ++number);
            }
        }
        s.run("count(6) = 45; ahead(0, 9) = -4; ahead(9, 0) = -4; section(9, 8) = 511; section(0, 8) = 0");
        new Script("9: Can be undone").run("ahead(0, 3) = 1; ahead(1, 3) = 2; undo() = 1; count(6) = 1;"
                + "section(3, 8) = 1; undo() = 0; count(6) = 0; move(3, 0) = 0");
    }

    private static void loosen() {
        new Script("10: UNKNOWN if there is no such section").run("loosen(4, 0) = -2; loosen(0, 4) = -2;"
                + "loosen(-1, 0) = -2; loosen(0, -1) = -2; loosen(" + FAR + ", 0) = -2; loosen(0, " + FAR + ") = -2;"
                + "loosen(" + NEAR + ", 0) = -2; loosen(0, " + NEAR + ") = -2; loosen(4, 4) = -2; count(9) = 0");
        new Script("10: NOT if there is no such precedence / both the same, the other way round, never there")
                .run("ahead(0, 1) = 1; loosen(0, 0) = -4; loosen(1, 1) = -4; loosen(1, 0) = -4; loosen(0, 2) = -4;"
                        + "count(6) = 1; count(9) = 1; loosen(0, 1) = 0; loosen(0, 1) = -4; count(9) = 2");
        new Script("10: NOT if there is no such precedence / one that follows from others is not there")
                .run("ahead(0, 1) = 1; ahead(1, 2) = 2; loosen(0, 2) = -4; loosen(0, 1) = 1; loosen(1, 2) = 0");
        new Script("10: Returns the number of precedences that are left / down to none").run("ahead(0, 1) = 1;"
                + "ahead(0, 2) = 2; ahead(1, 2) = 3; loosen(0, 2) = 2; section(2, 8) = 2; loosen(1, 2) = 1;"
                + "loosen(0, 1) = 0; count(6) = 0; move(2, 0) = 0");
        new Script("10: Can be undone").run("ahead(0, 3) = 1; loosen(0, 3) = 0; undo() = 1; count(6) = 1;"
                + "section(3, 8) = 1; move(3, 0) = -4");
    }

    private static void move() {
        new Script("11: it is taken out and inserted so that it is at place p / first to last and back")
                .run("move(0, 3) = 0").ordered(1, 2, 3, 0).run("move(0, 0) = 0").ordered(0, 1, 2, 3)
                .run("move(3, 0) = 0").ordered(3, 0, 1, 2).run("move(3, 3) = 0").ordered(0, 1, 2, 3);
        new Script("11: it is taken out and inserted so that it is at place p / one place on, one back, none")
                .run("move(1, 2) = 0").ordered(0, 2, 1, 3).run("move(1, 1) = 0").ordered(0, 1, 2, 3)
                .run("move(1, 1) = 0").ordered(0, 1, 2, 3).run("count(9) = 3");
        new Script("11: it is taken out and inserted so that it is at place p / among ten and among two")
                .told("sections 10", 1).run("move(0, 9) = 0").ordered(1, 2, 3, 4, 5, 6, 7, 8, 9, 0)
                .run("move(9, 0) = 0").ordered(9, 1, 2, 3, 4, 5, 6, 7, 8, 0).told("sections 2", 1)
                .run("move(0, 1) = 0").ordered(1, 0).run("move(0, 0) = 0").ordered(0, 1);
        new Script("11: Returns the number of terms that have notes then").told("uses 0 ab;home a 2;home b 3", 3)
                .run("move(0, 0) = 2; move(0, 1) = 2; move(0, 2) = 1; move(0, 3) = 0; move(0, 0) = 2");
        new Script("11: Can be undone").run("move(0, 3) = 0; move(1, 2) = 0; undo() = 1").ordered(1, 2, 3, 0)
                .run("undo() = 0").ordered(0, 1, 2, 3);
    }

    private static void moveThatIsRefused() {
        new Script("11: UNKNOWN if there is no such section or place").run("move(4, 0) = -2; move(-1, 0) = -2;"
                + "move(0, 4) = -2; move(0, -1) = -2; move(4, 4) = -2; move(" + FAR + ", 0) = -2;"
                + "move(" + NEAR + ", 0) = -2; move(0, " + FAR + ") = -2; move(0, " + NEAR + ") = -2; count(9) = 0")
                .ordered(0, 1, 2, 3);
        new Script("11: NOT if the new order would not respect all precedences").run("ahead(1, 2) = 1; move(1, 2) = -4;"
                + "move(1, 3) = -4; move(2, 1) = -4; move(2, 0) = -4; count(9) = 1").ordered(0, 1, 2, 3)
                .run("move(1, 1) = 0; move(1, 0) = 0; move(2, 3) = 0; move(3, 0) = 0").ordered(3, 1, 0, 2);
        new Script("11: NOT if the new order would not respect all precedences / only where it lies between")
                .run("ahead(0, 3) = 1; move(0, 2) = 0").ordered(1, 2, 0, 3).run("move(0, 3) = -4; move(3, 2) = -4;"
                        + "move(1, 3) = 0").ordered(2, 0, 3, 1).run("move(3, 0) = -4; move(3, 1) = -4; move(3, 2) = 0");
    }

    private static void settle() {
        new Script("12: Makes the best order the order / which it is already").run("settle() = 0").ordered(0, 1, 2, 3)
                .told("order 3 2 1 0;home a 3;uses 0 a", 3).run("settle() = 0; count(9) = 1").ordered(3, 2, 1, 0);
        new Script("12: Returns the number of inversions of the best order before / from 1 to all")
                .told("sections 2;home a 1;uses 0 a", 3).run("settle() = 1; settle() = 0").ordered(1, 0)
                .told("sections 3;home a 1;uses 0 a;home b 2;uses 1 b", 5).run("settle() = 3; least(2) = 0")
                .ordered(2, 1, 0);
        new Script("12: Can be undone").told("home a 3;uses 0 a", 2).run("settle() = 3; settle() = 0; count(9) = 2;"
                + "undo() = 1; count(1) = 0; undo() = 0; count(1) = 1; undo() = -4").ordered(0, 1, 2, 3);
    }

    // ---- promises 13 to 16

    private static void undo() {
        new Script("13: NOT if there is none").run("undo() = -4; undo() = -4; pages(0, 2) = 1; undo() = 0;"
                + "undo() = -4; section(0, 1) = 1; pages(0, 3) = 1; keep(0) = 0; back(0) = 0; undo() = -4;"
                + "section(0, 1) = 3").told("pages 0 4", 1).run("undo() = -4; section(0, 1) = 4");
        Script s = new Script("13: Returns the number of calls that can still be undone / from 7 to 0");
        for (int i = 0; i < 30; i++) {
            s.run("pages(" + i % 4 + ", " + (i / 4 + 2) + ") = " + (i < 4 ? 1 : i / 4 + 1));
        }
        for (int i = 7; i >= 0; i--) {
            s.run("undo() = " + i + "; count(9) = " + i);
        }
        s.run("undo() = -4; count(9) = 0; section(0, 1) = 7; section(1, 1) = 7; section(2, 1) = 6; section(3, 1) = 6");
        new Script("13: the manual is as it was before it / an undo is no call that can be undone")
                .run("pages(0, 2) = 1; pages(0, 3) = 2; undo() = 1; undo() = 0; undo() = -4; section(0, 1) = 1");
        new Script("13: the manual is as it was before it / the text and what is saved stay").type("uses0a")
                .run("pages(0, 2) = 1; keep(1) = 0; write(98) = 7; undo() = 0; count(10) = 7; back(1) = 0;"
                        + "section(0, 1) = 2; tell() = 1; section(0, 2) = 3");
    }

    private static void keep() {
        new Script("14: OUTSIDE if k is not 0 or 1").run("keep(-1) = -3; keep(2) = -3; keep(" + FAR + ") = -3;"
                + "keep(" + NEAR + ") = -3; back(0) = -4; back(1) = -4; keep(0) = 0; keep(1) = 0");
        new Script("14: in place of what was saved there").run("pages(0, 2) = 1; keep(0) = 0; pages(0, 3) = 2;"
                + "keep(1) = 0; pages(0, 4) = 3; keep(0) = 0; back(1) = 0; section(0, 1) = 3; back(0) = 0;"
                + "section(0, 1) = 4");
        new Script("14: Returns the number of terms that have notes / none and all").run("keep(0) = 0")
                .told("sections 2;uses 0 abcdefghijkl;home a 1;home b 1;home c 1;home d 1;home e 1;home f 1", 8)
                .told("home g 1;home h 1;home i 1;home j 1;home k 1;home l 1", 6).run("keep(1) = 12; back(0) = 0;"
                        + "keep(0) = 0; back(1) = 12");
        new Script("14: Saves the manual / the history stays, and what comes later is not saved").run("pages(0, 2) = 1;"
                + "keep(0) = 0; count(9) = 1; pages(0, 3) = 2; undo() = 1; undo() = 0; section(0, 1) = 1;"
                + "uses(1, 1, 1) = 1; home(1, 1) = -1; ahead(0, 1) = 1; move(3, 0) = 0; back(0) = 0;"
                + "section(0, 1) = 2; count(4) = 0; count(3) = 0; count(6) = 0").ordered(0, 1, 2, 3);
    }

    private static void back() {
        new Script("15: OUTSIDE if k is not 0 or 1").run("keep(0) = 0; keep(1) = 0; pages(0, 2) = 1; back(-1) = -3;"
                + "back(2) = -3; back(" + FAR + ") = -3; back(" + NEAR + ") = -3; section(0, 1) = 2; count(9) = 1");
        new Script("15: NOT if nothing was saved there").run("pages(0, 2) = 1; back(0) = -4; back(1) = -4; keep(1) = 0;"
                + "back(0) = -4; count(9) = 1; section(0, 1) = 2; undo() = 0; back(1) = 0; section(0, 1) = 2");
        new Script("15: It stays saved").run("pages(0, 2) = 1; keep(0) = 0; back(0) = 0; pages(0, 3) = 2; back(0) = 0;"
                + "section(0, 1) = 2; pages(0, 4) = 2; back(0) = 0; section(0, 1) = 2");
        new Script("15: Nothing can be undone then").run("keep(0) = 0; pages(0, 2) = 1; pages(0, 3) = 2; count(9) = 2;"
                + "back(0) = 0; count(9) = 0; undo() = -4; section(0, 1) = 1; pages(0, 5) = 1; undo() = 0;"
                + "section(0, 1) = 1; undo() = -4");
        new Script("15: Nothing can be undone then / also if it changes nothing").run("pages(0, 2) = 1; keep(1) = 0;"
                + "back(1) = 0; count(9) = 0; undo() = -4; section(0, 1) = 2");
        new Script("15: Returns the number of terms that have notes then").told("uses 0 ab;home a 1;home b 2", 3)
                .run("keep(0) = 2; move(0, 3) = 0; keep(1) = 0; back(0) = 2; back(1) = 0; back(0) = 2");
        new Script("15: Makes the manual as it was saved / the text stays").type("uses 0 a").run("keep(0) = 0;"
                + "write(98) = 9; back(0) = 0; count(10) = 9; tell() = 1; section(0, 2) = 3");
    }

    private static void at() {
        new Script("16: UNKNOWN if there is no such place").run("at(0) = 0; at(3) = 3; at(4) = -2; at(-1) = -2;"
                + "at(" + FAR + ") = -2; at(" + NEAR + ") = -2; at(9) = -2").told("sections 2", 1)
                .run("at(1) = 1; at(2) = -2").told("sections 10", 1).run("at(9) = 9; at(10) = -2");
    }

    // ---- promises 17 to 19

    private static void sectionArguments() {
        new Script("17: UNKNOWN if there is no such section").run("section(3, 0) = 3; section(4, 0) = -2;"
                + "section(-1, 0) = -2; section(" + FAR + ", 8) = -2; section(" + NEAR + ", 8) = -2").told("sections 2", 1)
                .run("section(1, 7) = 2; section(2, 7) = -2").told("sections 10", 1)
                .run("section(9, 7) = 512; section(10, 7) = -2");
        new Script("17: OUTSIDE if what is not 0 to 8").run("section(0, -1) = -3; section(0, 0) = 0; section(0, 8) = 0;"
                + "section(0, 9) = -3; section(0, " + FAR + ") = -3; section(0, " + NEAR + ") = -3");
    }

    private static void sectionSets() {
        Script s = new Script("17: 2 to 8 are sets / each of them empty and not").told("sections 3", 1)
                .run("section(1, 2) = 0; section(1, 3) = 0; section(1, 4) = 0; section(1, 5) = 0; section(1, 6) = 0;"
                        + "section(1, 7) = 2; section(1, 8) = 0");
        s.told("home a 0;home k 1;home l 2;uses 1 akl;uses 0 l;uses 2 k;ahead 0 1;pages 1 6", 8)
                .run("section(1, 0) = 1; section(1, 1) = 6; section(1, 2) = 3073; section(1, 3) = 1024;"
                        + "section(1, 4) = 2048; section(1, 5) = 0; section(0, 5) = 2048; section(1, 6) = 5;"
                        + "section(1, 7) = 7; section(1, 8) = 1");
    }

    private static void sectionsFirstAndLast() {
        new Script("17: 0 for its place in the order / the first and the last").told("sections 10", 1)
                .run("section(0, 0) = 0; section(9, 0) = 9; move(0, 9) = 0; section(0, 0) = 9; section(9, 0) = 8;"
                        + "move(9, 0) = 0; section(9, 0) = 0; section(1, 0) = 1");
        Script s = new Script("17: 4 for the terms that are early in it / all of them, and at the home none");
        s.told("sections 2;uses 0 abcdefghijkl;uses 1 abcdefghijkl", 3);
        for (int term = 0; term < 12; term++) {
            s.run("home(" + term + ", 1) = -1");
        }
        s.run("section(0, 4) = 4095; section(0, 5) = 4095; section(1, 4) = 0; section(1, 5) = 0; section(1, 3) = 4095;"
                + "section(0, 6) = 2; section(1, 6) = 0; move(1, 0) = 0; section(0, 4) = 0; section(0, 5) = 0");
        new Script("17: 8 for the sections that must come before it by a precedence / not those before these")
                .run("ahead(0, 1) = 1; ahead(1, 2) = 2; ahead(2, 3) = 3; section(0, 8) = 0; section(1, 8) = 1;"
                        + "section(2, 8) = 2; section(3, 8) = 4; ahead(0, 3) = 4; section(3, 8) = 5");
    }

    private static void termArguments() {
        new Script("18: UNKNOWN if there is no such term").run("term(0, 1) = 0; term(11, 1) = 0; term(12, 1) = -2;"
                + "term(-1, 1) = -2; term(" + FAR + ", 1) = -2; term(" + NEAR + ", 1) = -2");
        new Script("18: OUTSIDE if what is not 0 to 4").run("term(0, -1) = -3; term(0, 0) = -1; term(0, 4) = 0;"
                + "term(0, 5) = -3; term(0, " + FAR + ") = -3; term(0, " + NEAR + ") = -3");
    }

    private static void termValues() {
        new Script("18: for what 0 NONE if it has no home").run("term(11, 0) = -1; home(11, 0) = -1; term(11, 0) = 0;"
                + "home(11, -1) = 0; term(11, 0) = -1");
        new Script("18: for what 2 NONE if it has no note / unused, loose, used at home, used behind it")
                .run("term(0, 2) = -1; home(0, 1) = -1; term(0, 2) = -1; uses(1, 0, 1) = 1; term(0, 2) = -1;"
                        + "uses(2, 0, 1) = 1; term(0, 2) = -1; home(0, -1) = 1; term(0, 2) = -1; home(0, 2) = -1;"
                        + "term(0, 2) = 1; uses(0, 0, 1) = 1; term(0, 2) = 0");
        new Script("18: 3 for the length of its note (0 if it has none)").run("term(0, 3) = 0; uses(0, 0, 1) = 1;"
                + "term(0, 3) = 0; home(0, 0) = -1; term(0, 3) = 0; home(0, 1) = 0; term(0, 3) = 1; move(1, 0) = 0;"
                + "term(0, 3) = 0");
        new Script("18: 4 for whether it is loose (1 or 0)").run("term(11, 4) = 0; uses(3, 11, 1) = 1;"
                + "term(11, 4) = 1; uses(2, 11, 1) = 1; term(11, 4) = 1; home(11, 3) = -1; term(11, 4) = 0");
        Script s = new Script("18: 1 for the sections that use it, as a set / none and all ten").told("sections 10", 1)
                .run("term(11, 1) = 0");
        for (int section = 0; section < 10; section++) {
            s.run("uses(" + section + ", 11, 1) = 1; term(11, 1) = " + ((2 << section) - 1));
        }
    }

    private static void ring() {
        new Script("19: OUTSIDE if k is less than -1").run("ring(-1) = 0; ring(-2) = -3; ring(-3) = -3;"
                + "ring(" + NEAR + ") = -3");
        new Script("19: NONE for the number, or the index of a section, counted from 0")
                .told("sections 10;uses 9 a;home a 7;uses 7 b;home b 9", 5).run("ring(-1) = 2; ring(0) = 7; ring(1) = 9");
        new Script("19: Returns the number (0 if there is no cycle)").run("ring(-1) = 0").told("uses 0 a;home a 1;"
                + "uses 1 b;home b 2;uses 2 c;home c 3", 6).run("ring(-1) = 0; uses(3, 3, 1) = 1; home(3, 0) = -1;"
                + "ring(-1) = 4; home(3, 3) = 0; ring(-1) = 0");
        new Script("19: NONE if k is an index and there are not so many sections").run("ring(0) = -1;"
                + "ring(" + FAR + ") = -1").told("uses 2 a;home a 3;uses 3 b;home b 2", 4)
                .run("ring(-1) = 2; ring(0) = 2; ring(1) = 3; ring(2) = -1; ring(3) = -1; ring(9) = -1; ring(10) = -1;"
                        + "ring(11) = -1; ring(" + FAR + ") = -1");
        new Script("19: NONE if k is an index and there are not so many sections / after a longer cycle")
                .told("uses 0 a;home a 1;uses 1 b;home b 2;uses 2 c;home c 0", 6).run("ring(2) = 2; uses(1, 3, 1) = 1;"
                        + "home(3, 0) = -1; ring(1) = 1; ring(2) = -1; home(3, -1) = 0; ring(2) = 2; home(2, -1) = 0;"
                        + "ring(0) = -1; ring(-1) = 0");
    }

    // ---- promises 20 to 24

    private static void best() {
        new Script("20: UNKNOWN if there is no such place").run("best(0) = 0; best(3) = 3; best(4) = -2; best(-1) = -2;"
                + "best(" + FAR + ") = -2; best(" + NEAR + ") = -2").told("sections 2", 1)
                .run("best(1) = 1; best(2) = -2").told("sections 10", 1).run("best(9) = 9; best(10) = -2")
                .told("sections 2", 1).run("best(1) = 1; best(2) = -2; best(9) = -2");
        new Script("20: Returns the section at a place of the best order / the order stays as it is")
                .told("home a 3;uses 0 a", 2).bestIs(1, 2, 3, 0).ordered(0, 1, 2, 3).run("count(9) = 0; count(1) = 1");
    }

    private static void least() {
        new Script("21: OUTSIDE if what is not 0 to 3").run("least(-1) = -3; least(0) = 0; least(3) = 0; least(4) = -3;"
                + "least(" + FAR + ") = -3; least(" + NEAR + ") = -3");
        new Script("21: 0 for the terms that would have notes, as a set / the lowest and the highest")
                .told("ahead 0 3;uses 0 al;home a 3;home l 3;uses 1 f;home f 2;pages 0 9;pages 2 5", 8)
                .run("least(0) = 2049; least(1) = 2; least(2) = 1; least(3) = 30");
        new Script("21: 3 for the sum of the lengths of all notes / in the best order, not in the present one")
                .told("uses 0 a;home a 3;pages 0 9", 3).run("count(7) = 11; least(3) = 0; ahead(0, 3) = 1;"
                        + "least(3) = 11; count(7) = 11");
    }

    private static void would() {
        new Script("22: UNKNOWN if there is no such section or term").run("would(4, 0) = -2; would(-1, 0) = -2;"
                + "would(0, 12) = -2; would(0, -1) = -2; would(" + FAR + ", 0) = -2; would(" + NEAR + ", 0) = -2;"
                + "would(0, " + FAR + ") = -2; would(0, " + NEAR + ") = -2; would(0, 0) = 0; would(3, 11) = 0")
                .told("sections 10", 1).run("would(9, 11) = 0; would(10, 11) = -2");
        new Script("22: if a section used a term, too / which it uses already").told("ahead 0 1;uses 0 a;home a 1", 3)
                .run("would(0, 0) = 1; least(1) = 1; would(2, 0) = 1; would(1, 0) = 1");
        new Script("22: in the best order / the one that is best then, not the one that is best now")
                .told("home a 3;home b 0;uses 3 b", 3).run("least(1) = 0; would(0, 0) = 1; would(1, 0) = 0;"
                        + "would(2, 0) = 0; would(3, 0) = 0; ahead(1, 3) = 1; would(1, 0) = 1; would(2, 0) = 0");
        new Script("22: Nothing is changed").told("ahead 0 1;home a 1", 2).run("would(0, 0) = 1; count(4) = 0;"
                + "section(0, 2) = 0; least(1) = 0; count(1) = 0; count(9) = 0; would(0, 0) = 1; undo() = -4")
                .ordered(0, 1, 2, 3);
    }

    private static void after() {
        new Script("23: UNKNOWN if there is no such section or place").run("after(4, 0) = -2; after(-1, 0) = -2;"
                + "after(0, 4) = -2; after(0, -1) = -2; after(" + FAR + ", 0) = -2; after(" + NEAR + ", 0) = -2;"
                + "after(0, " + FAR + ") = -2; after(0, " + NEAR + ") = -2; after(0, 0) = 0; after(3, 3) = 0;"
                + "after(0, 3) = 0; after(3, 0) = 0");
        new Script("23: NOT if the new order would not respect all precedences").run("ahead(1, 2) = 1;"
                + "after(1, 1) = 0; after(1, 2) = -4; after(1, 3) = -4; after(2, 2) = 0; after(2, 1) = -4;"
                + "after(2, 0) = -4; after(1, 0) = 0; after(2, 3) = 0; after(0, 3) = 0");
        new Script("23: how many terms would have notes after a section was moved").told("uses 0 ab;home a 2;home b 3", 3)
                .run("after(0, 0) = 2; after(0, 1) = 2; after(0, 2) = 1; after(0, 3) = 0; after(3, 0) = 1");
        new Script("23: Nothing is changed").told("uses 0 a;home a 3", 2).run("after(0, 3) = 0; count(1) = 1;"
                + "count(9) = 0; undo() = -4; after(3, 0) = 0; term(0, 2) = 0").ordered(0, 1, 2, 3);
    }

    private static void countArguments() {
        new Script("24: OUTSIDE if what is not 0 to 11").run("count(-1) = -3; count(0) = 4; count(11) = 4;"
                + "count(12) = -3; count(" + FAR + ") = -3; count(" + NEAR + ") = -3");
    }

    private static void countExtremes() {
        Script s = new Script("24: 0 for n, 1 for the number of terms that have notes / and the other counts, at most")
                .told("sections 10;uses0abcdefghijkl;uses1abcdefghijkl;uses2abcdefghijkl;uses3abcdefghijkl", 5)
                .told("uses4abcdefghijkl;uses5abcdefghijkl;uses6abcdefghijkl;uses7abcdefghijkl;uses8abcdefghijkl", 5)
                .told("uses9abcdefghijkl", 1).run("count(2) = 12; count(3) = 0; count(1) = 0; count(4) = 120;"
                        + "count(5) = 0; count(7) = 0");
        for (int section = 0; section < 10; section++) {
            s.run("pages(" + section + ", 9) = 1");
        }
        for (int term = 0; term < 12; term++) {
            s.run("home(" + term + ", 9) = -1; count(1) = " + (term + 1) + "; count(2) = " + (11 - term) + "; count(3) = "
                    + (term + 1));
        }
        s.run("count(0) = 10; count(5) = 108; count(7) = 972; count(8) = 0; count(6) = 0; ahead(0, 9) = 1; count(6) = 1;"
                + "least(1) = 12; least(3) = 972; least(0) = 4095; least(2) = 0; best(1) = 1");
        new Script("24: 0 for n, 1 for the number of terms that have notes / and the other counts, at least")
                .told("sections 2", 1).run("count(0) = 2; count(1) = 0; count(2) = 0; count(3) = 0; count(4) = 0;"
                        + "count(5) = 0; count(6) = 0; count(7) = 0; count(8) = 0; count(9) = 0; count(10) = 0;"
                        + "count(11) = 2");
    }

    private static void countValues() {
        new Script("24: 8 for the number of different components of two or more sections / none, one, two, five")
                .told("sections 10", 1).run("count(8) = 0").told("home a 1;uses 0 a;home b 0;uses 1 b", 4)
                .run("count(8) = 1").told("home c 9;uses 8 c;home d 8;uses 9 d", 4).run("count(8) = 2")
                .told("home e 3;uses 2 e;home f 2;uses 3 f;home g 5;uses 4 g;home h 4;uses 5 h", 8)
                .told("home i 7;uses 6 i;home j 6;uses 7 j", 4).run("count(8) = 5; uses(0, 2, 1) = 1; count(8) = 5;"
                        + "uses(9, 0, 1) = 1; count(8) = 4");
        new Script("24: 9 for the number of calls that can be undone / from 0 to 8").run("count(9) = 0;"
                + "pages(0, 1) = 1; count(9) = 1; pages(0, 1) = 1; pages(0, 1) = 1; pages(0, 1) = 1; pages(0, 1) = 1;"
                + "pages(0, 1) = 1; pages(0, 1) = 1; count(9) = 7; pages(0, 1) = 1; count(9) = 8; pages(0, 1) = 1;"
                + "count(9) = 8; undo() = 7; count(9) = 7");
        new Script("24: 10 for the length of the text / from 0 to 200").run("count(10) = 0; write(0) = 1; count(10) = 1")
                .type("x".repeat(199)).run("count(10) = 200; write(0) = -5; count(10) = 200");
        new Script("24: 11 for the sum of the pages of all sections / the fewest and the most").told("sections 2", 1)
                .run("count(11) = 2").told("sections 10;pages 0 9;pages 1 9;pages 2 9;pages 3 9;pages 4 9;pages 5 9", 7)
                .told("pages 6 9;pages 7 9;pages 8 9;pages 9 9", 4).run("count(11) = 90");
        new Script("24: 4 for the number of pairs of a section and a term that it uses / none and one twice")
                .run("count(4) = 0; uses(0, 0, 1) = 1; uses(0, 0, 1) = 0; count(4) = 1; uses(3, 0, 1) = 1;"
                        + "uses(3, 11, 1) = 1; count(4) = 3; count(5) = 0; home(0, 3) = -1; count(5) = 1;"
                        + "home(0, 0) = 3; count(5) = 0; home(11, 0) = -1; count(5) = 0; count(3) = 2");
    }
}
