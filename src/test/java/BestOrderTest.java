/** Promises 12 and 20 to 22: settle, best, least, would; after is with move. */
public final class BestOrderTest {
    public static void main(String[] args) {
        wrongArguments();
        fewestNotes();
        fewestInversions();
        presentOrderDecides();
        precedences();
        tenSections();
        would();
        askedAgain();
        Script.end();
    }

    private static void wrongArguments() {
        new Script("wrong arguments").run("best(4) = -2; best(-1) = -2; best(2147483647) = -2;"
                + "best(-2147483648) = -2; least(-1) = -3; least(4) = -3; least(2147483647) = -3; would(4, 0) = -2;"
                + "would(-1, 0) = -2; would(0, 12) = -2; would(0, -1) = -2; would(2147483647, -2147483648) = -2;"
                + "least(0) = 0; least(1) = 0; least(2) = 0; least(3) = 0; would(3, 11) = 0").bestIs(0, 1, 2, 3)
                .told("sections 2", 1).run("best(1) = 1; best(2) = -2");
    }

    private static void fewestNotes() {
        new Script("no notes are needed").told("home a 3;home b 2;uses 0 a;uses 3 b", 4).bestIs(1, 2, 3, 0)
                .run("least(0) = 0; least(1) = 0; least(2) = 3; least(3) = 0; count(1) = 1; settle() = 3; count(1) = 0;"
                        + "least(2) = 0; settle() = 0; undo() = 1; undo() = 0; count(1) = 1")
                .ordered(0, 1, 2, 3);
        new Script("terms count, not early uses").told("home a 3;home b 0;home c 0;uses 0 a;uses 1 a;uses 2 a;uses 3 bc", 7)
                .run("least(1) = 1; least(0) = 1; least(2) = 0; least(3) = 3; settle() = 0");
        new Script("fewer notes before shorter ones")
                .told("home a 3;home b 0;home c 0;uses 0 a;uses 3 bc;pages 0 9;pages 1 9;pages 2 9", 8)
                .run("least(1) = 1; least(0) = 1; least(3) = 27; least(2) = 0; uses(1, 1, 1) = 1; least(1) = 1;"
                        + "least(2) = 0").bestIs(0, 1, 2, 3);
    }

    private static void fewestInversions() {
        new Script("nearest").told("sections 5;home a 4;uses 0 a", 3).bestIs(1, 2, 3, 4, 0)
                .run("least(2) = 4; settle() = 4").ordered(1, 2, 3, 4, 0);
        new Script("nearest to the present order, not to the numbers").told("order 3 2 1 0", 1).bestIs(3, 2, 1, 0)
                .run("least(2) = 0; uses(3, 0, 1) = 1; home(0, 1) = -1; least(2) = 2; settle() = 2")
                .ordered(2, 1, 3, 0).run("count(9) = 3");
    }

    private static void presentOrderDecides() {
        new Script("of several the first").told("home a 1;uses 0 a;home b 3;uses 2 b;home c 2;uses 3 c", 6)
                .run("least(1) = 1; least(2) = 1; least(0) = 2").bestIs(1, 0, 2, 3);
        new Script("of several the first in the present order")
                .told("sections 3;home a 2;uses 0 a", 3).run("least(2) = 2").bestIs(1, 2, 0)
                .told("sections 3;order 2 1 0;home a 0;uses 2 a", 4).run("least(2) = 2").bestIs(1, 0, 2)
                .told("sections 3;order 1 2 0;home a 0;uses 1 a", 4).bestIs(2, 0, 1);
    }

    private static void precedences() {
        new Script("precedences bind").told("home a 3;uses 0 a", 2).run("least(1) = 0; ahead(0, 2) = 1; least(1) = 0;"
                + "least(2) = 3").bestIs(1, 3, 0, 2).run("ahead(2, 3) = 2; least(1) = 1; least(2) = 0; least(0) = 1;"
                + "least(3) = 3; settle() = 0; count(9) = 3; loosen(2, 3) = 1; settle() = 3").ordered(1, 3, 0, 2)
                .run("count(6) = 1; section(2, 8) = 1");
    }

    private static void tenSections() {
        new Script("reversed").told("sections 10;home a 9;home b 8;home c 7;home d 6;home e 5;home f 4;home g 3", 8)
                .told("home h 2;home i 1;uses 0 i;uses 1 h;uses 2 g;uses 3 f;uses 4 e;uses 5 d;uses 6 c;uses 7 b", 10)
                .told("uses 8 a", 1).run("count(1) = 9; least(1) = 0; least(2) = 45; least(0) = 0; best(9) = 0")
                .bestIs(9, 8, 7, 6, 5, 4, 3, 2, 1, 0).run("home(9, 0) = -1; uses(9, 9, 1) = 1; least(1) = 1;"
                        + "undo() = 1; settle() = 45; count(1) = 0; least(2) = 0")
                .ordered(9, 8, 7, 6, 5, 4, 3, 2, 1, 0);
    }

    private static void would() {
        new Script("would").told("order 2 0 1 3;home a 0;home b 1;uses 0 b", 4).run("would(1, 0) = 1; would(1, 1) = 0;"
                + "would(0, 1) = 0; would(2, 0) = 0; would(0, 0) = 0; would(2, 5) = 0; count(9) = 0; count(4) = 1;"
                + "least(1) = 0; ahead(2, 0) = 1; would(2, 0) = 1; would(3, 0) = 0; count(4) = 1; uses(1, 0, 1) = 1;"
                + "would(1, 0) = 1; would(2, 0) = 1; least(1) = 1; least(0) = 2; least(2) = 0; would(2, 1) = 1;"
                + "count(1) = 1; count(4) = 2; count(9) = 2");
    }

    /** The best order is that of the manual as it is now, whatever was asked before. */
    private static void askedAgain() {
        new Script("asked again").bestIs(0, 1, 2, 3).run("home(0, 1) = -1; uses(0, 0, 1) = 1").bestIs(1, 0, 2, 3)
                .run("ahead(0, 1) = 1; least(1) = 1").bestIs(0, 1, 2, 3).run("loosen(0, 1) = 0").bestIs(1, 0, 2, 3)
                .run("home(0, 3) = 1; least(2) = 3").bestIs(1, 2, 3, 0).run("uses(0, 0, 0) = 1; least(2) = 0")
                .bestIs(0, 1, 2, 3).run("undo() = 5; least(2) = 3").bestIs(1, 2, 3, 0)
                .run("move(3, 0) = 0; least(2) = 0").bestIs(3, 0, 1, 2)
                .run("keep(0) = 0; undo() = 5; least(2) = 3; back(0) = 0; least(2) = 0").bestIs(3, 0, 1, 2)
                .run("would(3, 11) = 0; home(11, 1) = -1; would(3, 11) = 0; least(1) = 0; ahead(3, 1) = 1;"
                        + "would(3, 11) = 1; least(1) = 0; least(0) = 0");
        new Script("asked again after pages").told("ahead 1 3;home a 3;uses 1 a", 3)
                .run("least(3) = 2; pages(1, 5) = 1; least(3) = 6; pages(2, 9) = 1; least(3) = 14; undo() = 1;"
                        + "least(3) = 6");
        new Script("asked again with the uses of all sections changed").told("sections 2;home a 1", 2).bestIs(0, 1)
                .run("uses(0, 0, 1) = 1; uses(1, 5, 1) = 1").bestIs(1, 0).run("least(2) = 1");
        Script homes = new Script("asked again with all homes changed").told("sections 2;uses 0 abcdefghijkl", 2);
        for (int term = 0; term < 12; term++) {
            homes.run("home(" + term + ", 0) = -1");
        }
        homes.run("keep(0) = 0").bestIs(0, 1);
        for (int term = 0; term < 12; term++) {
            homes.run("home(" + term + ", 1) = 0");
        }
        homes.run("keep(1) = 12").bestIs(1, 0).run("back(0) = 0").bestIs(0, 1).run("back(1) = 12").bestIs(1, 0);
        new Script("asked again with another n").told("sections 2", 1).bestIs(0, 1).told("sections 4", 1)
                .bestIs(0, 1, 2, 3).told("sections 10", 1).bestIs(0, 1, 2, 3, 4, 5, 6, 7, 8, 9)
                .told("sections 3", 1).bestIs(0, 1, 2).run("best(3) = -2");
        new Script("asked again with a smaller n").told("sections 10;ahead 8 9;home a 9;uses 8 a;home b 8;uses 2 b", 6)
                .run("least(1) = 1; least(2) = 6; least(0) = 1").told("sections 2", 1).run("least(1) = 0; least(2) = 0;"
                        + "least(0) = 0; least(3) = 0").bestIs(0, 1)
                .told("sections 4;home a 3;uses 0 a", 3).run("least(1) = 0; least(2) = 3").bestIs(1, 2, 3, 0)
                .told("sections 3", 1).run("least(1) = 0; least(2) = 0; settle() = 0").ordered(0, 1, 2);
    }
}
