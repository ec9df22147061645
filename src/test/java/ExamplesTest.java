/** The four examples of the document, word for word, and promise 1. */
public final class ExamplesTest {
    public static void main(String[] args) {
        new Script("example 1").run("uses(0, 3, 1) = 1; home(3, 2) = -1; uses(2, 5, 1) = 1; home(5, 0) = -1;"
                + "pages(1, 4) = 1; term(3, 2) = 0; term(3, 3) = 5; ring(-1) = 2; ring(0) = 0; section(0, 7) = 5;"
                + "least(1) = 1; best(0) = 0; ahead(0, 2) = 1; least(0) = 8; would(1, 3) = 1; settle() = 0");
        new Script("example 2").run("write(111) = 1; write(114) = 2; write(100) = 3; write(101) = 4; write(114) = 5;"
                + "write(32) = 6; write(51) = 7; write(48) = 8; write(49) = 9; write(50) = 10; fault() = 6;"
                + "tell() = -4; erase() = 10; move(0, 3) = 0; at(3) = 0; undo() = 0");
        new Script("example 3").run("write(117) = 1; write(115) = 2; write(101) = 3; write(115) = 4; write(32) = 5;"
                + "write(49) = 6; write(32) = 7; write(98) = 8; write(97) = 9; write(98) = 10; fault() = -1;"
                + "tell() = 1; section(1, 2) = 3; count(2) = 2; loosen(0, 0) = -4; back(1) = -4");
        new Script("example 4").run("fault() = 0; keep(1) = 0; uses(0, 0, 0) = 0; home(0, 4) = -2; home(12, 0) = -2;"
                + "move(1, 1) = 0; after(4, 0) = -2; term(0, 0) = -1; ring(-2) = -3; ring(2) = -1; count(9) = 2;"
                + "undo() = 1; undo() = 0; undo() = -4; back(1) = 0; count(12) = -3");
        newObject();
        Script.end();
    }

    private static void newObject() {
        Script s = new Script("promise 1").ordered(0, 1, 2, 3);
        s.run("count(0) = 4; count(1) = 0; count(2) = 0; count(3) = 0; count(4) = 0; count(5) = 0; count(6) = 0;"
                + "count(7) = 0; count(8) = 0; count(9) = 0; count(10) = 0; count(11) = 4; undo() = -4;"
                + "back(0) = -4; back(1) = -4; fault() = 0; tell() = -4; erase() = 0");
        for (int section = 0; section < 4; section++) {
            s.run("section(" + section + ", 1) = 1; section(" + section + ", 2) = 0; section(" + section + ", 3) = 0;"
                    + "section(" + section + ", 8) = 0");
        }
        for (int term = 0; term < 12; term++) {
            s.run("term(" + term + ", 0) = -1; term(" + term + ", 1) = 0; term(" + term + ", 4) = 0");
        }
    }
}
