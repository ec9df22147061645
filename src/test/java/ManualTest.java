/** Promises 16 to 19 and 24: at, section, term, ring, count. */
public final class ManualTest {
    public static void main(String[] args) {
        at();
        wrongArguments();
        earlyUsesAndNotes();
        looseTerms();
        needsAndComponents();
        rings();
        everythingUsed();
        Script.end();
    }

    private static void at() {
        new Script("at").run("at(0) = 0; at(3) = 3; at(4) = -2; at(-1) = -2; at(2147483647) = -2;"
                + "at(-2147483648) = -2; move(3, 0) = 0; at(0) = 3; at(1) = 0").told("sections 10", 1)
                .run("at(9) = 9; at(10) = -2").told("sections 2", 1).run("at(1) = 1; at(2) = -2");
    }

    private static void wrongArguments() {
        new Script("wrong arguments").run("section(4, 0) = -2; section(-1, 0) = -2; section(0, 9) = -3;"
                + "section(0, -1) = -3; section(4, 9) = -2; section(-1, -1) = -2; section(2147483647, 0) = -2;"
                + "section(0, 2147483647) = -3; term(12, 0) = -2; term(-1, 0) = -2; term(0, 5) = -3;"
                + "term(0, -1) = -3; term(12, 5) = -2; term(-1, -1) = -2; term(2147483647, 0) = -2;"
                + "term(0, -2147483648) = -3; count(-1) = -3; count(12) = -3; count(2147483647) = -3;"
                + "ring(-2) = -3; ring(-2147483648) = -3; ring(-1) = 0; ring(0) = -1; ring(2147483647) = -1");
    }

    private static void earlyUsesAndNotes() {
        Script s = new Script("notes").told("sections 5;pages 0 2;pages 1 3;pages 2 4;pages 3 5;pages 4 6", 6)
                .told("home a 3;home b 0;home c 4;uses 1 abc;uses 2 a;uses 3 abc;uses 4 c", 7);
        s.run("section(0, 4) = 0; section(1, 4) = 5; section(2, 4) = 1; section(3, 4) = 4; section(4, 4) = 0;"
                + "section(1, 5) = 5; section(2, 5) = 0; section(3, 5) = 0; term(0, 2) = 1; term(0, 3) = 7;"
                + "term(1, 2) = -1; term(1, 3) = 0; term(2, 2) = 1; term(2, 3) = 12; term(3, 2) = -1;"
                + "count(1) = 2; count(5) = 4; count(7) = 19; count(3) = 3; count(4) = 8; count(11) = 20");
        s.run("move(1, 4) = 2").ordered(0, 2, 3, 4, 1).run("term(0, 2) = 2; term(0, 3) = 4; term(2, 2) = 3;"
                + "term(2, 3) = 5; section(2, 5) = 1; section(3, 5) = 4; section(1, 5) = 0; section(1, 4) = 0;"
                + "count(5) = 2; count(7) = 9");
        s.run("move(0, 4) = 3; term(1, 2) = 3; term(1, 3) = 14; count(7) = 23; section(3, 5) = 6");
        new Script("a use at home is not early").run("uses(2, 0, 1) = 1; home(0, 2) = -1; section(2, 4) = 0;"
                + "term(0, 2) = -1; term(0, 3) = 0; count(1) = 0; count(5) = 0; section(2, 6) = 0; count(8) = 0;"
                + "ring(-1) = 0");
        new Script("a note in each section").told("home a 1;home b 2;home c 3;uses 0 a;uses 1 b;uses 2 c", 6)
                .run("section(0, 5) = 1; section(1, 5) = 2; section(2, 5) = 4; count(7) = 3; count(1) = 3");
    }

    private static void looseTerms() {
        new Script("loose").run("term(0, 4) = 0; uses(1, 0, 1) = 1; term(0, 4) = 1; uses(2, 11, 1) = 1;"
                + "count(2) = 2; home(0, 1) = -1; term(0, 4) = 0; count(2) = 1; term(11, 4) = 1; term(5, 4) = 0;"
                + "home(5, 0) = -1; term(5, 4) = 0; uses(2, 11, 0) = 1; count(2) = 0; home(0, -1) = 1;"
                + "count(2) = 1; section(1, 6) = 0; section(1, 4) = 0");
    }

    private static void needsAndComponents() {
        Script s = new Script("components").told("sections 8;home a 1;home b 2;home c 0;home d 4;home e 3;home f 5", 7)
                .told("uses 0 a;uses 1 b;uses 2 c;uses 3 d;uses 4 e;uses 5 af;uses 2 f;uses 6 ace", 8);
        s.run("section(0, 6) = 2; section(1, 6) = 4; section(2, 6) = 33; section(5, 6) = 2; section(6, 6) = 11;"
                + "section(7, 6) = 0; section(0, 7) = 39; section(1, 7) = 39; section(2, 7) = 39; section(5, 7) = 39;"
                + "section(3, 7) = 24; section(4, 7) = 24; section(6, 7) = 64; section(7, 7) = 128; count(8) = 2;"
                + "ring(-1) = 2; ring(0) = 3; ring(1) = 4; ring(2) = -1");
        s.run("home(4, -1) = 3; count(8) = 1; section(3, 7) = 8; ring(-1) = 3; ring(0) = 0; ring(1) = 1;"
                + "ring(2) = 2; ring(3) = -1; move(0, 7) = 4; section(0, 7) = 39; ring(0) = 0");
    }

    private static void rings() {
        new Script("the longest ring").told("sections 10;home a 1;home b 2;home c 3;home d 4;home e 5;home f 6", 7)
                .told("home g 7;home h 8;home i 9;home j 0", 4)
                .told("uses 0 a;uses 1 b;uses 2 c;uses 3 d;uses 4 e;uses 5 f;uses 6 g;uses 7 h;uses 8 i;uses 9 j", 10)
                .run("ring(-1) = 10; ring(0) = 0; ring(1) = 1; ring(9) = 9; ring(10) = -1; count(8) = 1;"
                        + "section(4, 7) = 1023; uses(9, 0, 1) = 1; ring(-1) = 9; ring(0) = 1; ring(8) = 9;"
                        + "ring(9) = -1; uses(5, 2, 1) = 1; ring(-1) = 3; ring(0) = 3; ring(1) = 4; ring(2) = 5");
        new Script("the lexicographically first ring")
                .told("sections 6;home a 1;home b 2;home c 5;home d 0;home e 3;home f 4", 7)
                .told("uses 0 ac;uses 1 f;uses 5 b;uses 2 d;uses 4 d;uses 3 a", 6)
                .run("ring(-1) = 3; ring(0) = 0; ring(1) = 1; ring(2) = 4; uses(1, 5, 0) = 1; ring(1) = 5;"
                        + "ring(2) = 2; uses(4, 4, 1) = 1; uses(3, 5, 1) = 1; ring(-1) = 2; ring(0) = 3; ring(1) = 4");
        new Script("a dead end that begins lower")
                .told("sections 5;home a 1;home b 2;home c 3;home d 0;home e 4", 6)
                .told("uses 0 abe;uses 4 c;uses 2 c;uses 3 d;uses 1 e", 5)
                .run("ring(-1) = 3; ring(0) = 0; ring(1) = 2; ring(2) = 3");
    }

    /** The largest manual: ten sections of nine pages, each of which uses all twelve terms. */
    private static void everythingUsed() {
        Script s = largestManual();
        s.run("count(0) = 10; count(1) = 11; count(2) = 0; count(3) = 12; count(4) = 120; count(5) = 63;"
                + "count(6) = 0; count(7) = 567; count(8) = 1; count(9) = 8; count(11) = 90; section(0, 4) = 4094;"
                + "section(8, 4) = 3584; section(9, 4) = 0; section(9, 3) = 3584; section(0, 5) = 4094;"
                + "section(1, 5) = 0; section(9, 2) = 4095; term(0, 1) = 1023; term(11, 1) = 1023; term(11, 2) = 0;"
                + "term(11, 3) = 81; term(0, 2) = -1; ring(-1) = 2; ring(0) = 0; ring(1) = 1; least(0) = 511;"
                + "least(1) = 9; least(2) = 9; least(3) = 405; would(9, 11) = 9; after(9, 0) = 9; after(8, 0) = 11;"
                + "keep(0) = 11; settle() = 9; count(1) = 9; undo() = 7; back(0) = 11")
                .bestIs(9, 0, 1, 2, 3, 4, 5, 6, 7, 8).ordered(0, 1, 2, 3, 4, 5, 6, 7, 8, 9);
        for (int section = 0; section < 10; section++) {
            s.run("section(" + section + ", 1) = 9; section(" + section + ", 7) = 1023;"
                    + "section(" + section + ", 6) = " + (1023 - (1 << section)));
        }
    }

    private static Script largestManual() {
        Script s = new Script("everything used").told("sections 10;home a 0;home b 1;home c 2;home d 3;home e 4", 6)
                .told("home f 5;home g 6;home h 7;home i 8;home j 9;home k 9;home l 9", 7)
                .told("uses0abcdefghijkl;uses1abcdefghijkl;uses2abcdefghijkl;uses3abcdefghijkl", 4)
                .told("uses4abcdefghijkl;uses5abcdefghijkl;uses6abcdefghijkl;uses7abcdefghijkl", 4);
        for (int section = 8; section < 10; section++) {
            for (int term = 0; term < 12; term++) {
                s.run("uses(" + section + ", " + term + ", 1) = 1");
            }
        }
        for (int section = 0; section < 10; section++) {
            s.run("pages(" + section + ", 9) = 1");
        }
        return s;
    }
}
