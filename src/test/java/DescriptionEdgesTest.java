/**
 * The edges that the document's Description names, but for the text: manuals, notes and needs, the best order,
 * undoing and saving, results. Each run is named by the words that it tests, quoted; behind a slash stands which
 * of their edges.
 */
public final class DescriptionEdgesTest {
    public static void main(String[] args) {
        sections();
        terms();
        pages();
        firstManual();
        orderAndPrecedences();
        bitSets();
        earlyTerms();
        notes();
        lengths();
        looseTerms();
        needs();
        cycles();
        severalCycles();
        components();
        inversions();
        fewestNotes();
        fewestInversions();
        firstPlaceThatDiffers();
        undoing();
        undoingWhatChangesNothing();
        saving();
        errorCodes();
        fiveHundredCalls();
        Script.end();
    }

    // ---- manuals

    private static void sections() {
        new Script("n is 2 to 10 (at first 4) / at first").run("count(0) = 4; section(0, 0) = 0; section(3, 0) = 3;"
                + "section(4, 0) = -2; section(-1, 0) = -2");
        new Script("n is 2 to 10 (at first 4) / the fewest").told("sections 2", 1).run("count(0) = 2;"
                + "section(1, 0) = 1; section(2, 0) = -2; at(1) = 1; at(2) = -2; pages(1, 9) = 1; pages(2, 9) = -2");
        new Script("n is 2 to 10 (at first 4) / the most").told("sections 10", 1).run("count(0) = 10;"
                + "section(9, 0) = 9; section(10, 0) = -2; at(9) = 9; at(10) = -2; pages(9, 9) = 1; pages(10, 9) = -2");
        new Script("n is 2 to 10 (at first 4) / too few and too many").freshly("sections 1", 9)
                .freshly("sections 0", 9).freshly("sections 11", 9).freshly("sections 12", 9);
    }

    private static void terms() {
        Script s = new Script("12 terms, 0 to 11, which are written a to l");
        for (int term = 0; term < 12; term++) {
            s.told("home " + (char) ('a' + term) + " 3", 1).run("term(" + term + ", 0) = 3; count(3) = " + (term + 1));
        }
        s.run("term(12, 0) = -2; term(-1, 0) = -2").faulty("home m 3", 5).faulty("home ` 3", 5);
    }

    private static void pages() {
        Script s = new Script("a number of pages from 1 to 9, at first 1 / ten sections").told("sections 10", 1);
        for (int section = 0; section < 10; section++) {
            s.run("section(" + section + ", 1) = 1");
        }
        s.run("count(11) = 10");
        for (int section = 0; section < 10; section++) {
            s.run("pages(" + section + ", 9) = 1; section(" + section + ", 1) = 9");
        }
        s.run("count(11) = 90; pages(0, 10) = -3; pages(0, 0) = -3; count(11) = 90");
    }

    private static void firstManual() {
        Script s = new Script("a set of terms that it uses, at first empty");
        for (int section = 0; section < 4; section++) {
            s.run("section(" + section + ", 2) = 0");
        }
        s.run("count(4) = 0");
        Script homes = new Script("A term may have a home, which is a section; at first it has none");
        for (int term = 0; term < 12; term++) {
            homes.run("term(" + term + ", 0) = -1");
        }
        homes.run("count(3) = 0; home(11, 0) = -1; term(11, 0) = 0; home(11, 3) = 0; term(11, 0) = 3; count(3) = 1");
        new Script("at first 0, 1 and so on; the places in it are counted from 0 / four").ordered(0, 1, 2, 3)
                .run("at(-1) = -2");
        new Script("at first 0, 1 and so on; the places in it are counted from 0 / two and ten")
                .told("sections 2", 1).ordered(0, 1).told("sections 10", 1).ordered(0, 1, 2, 3, 4, 5, 6, 7, 8, 9);
        new Script("(at first there are none)").run("count(6) = 0; section(0, 8) = 0; section(3, 8) = 0;"
                + "loosen(0, 1) = -4");
    }

    private static void orderAndPrecedences() {
        new Script("The order always respects all precedences / move").run("ahead(0, 1) = 1; ahead(1, 2) = 2;"
                + "move(2, 0) = -4; move(2, 1) = -4; move(0, 1) = -4; move(0, 3) = -4; move(1, 0) = -4;"
                + "move(1, 2) = -4").ordered(0, 1, 2, 3).run("move(3, 0) = 0").ordered(3, 0, 1, 2);
        new Script("The order always respects all precedences / the text")
                .told("ahead 0 1;ahead 1 2;order 1 0 2 3;order 0 2 1 3;order 2 1 0 3", 5).ordered(0, 1, 2, 3)
                .told("order 0 3 1 2", 1).ordered(0, 3, 1, 2);
        new Script("The order always respects all precedences / settle").told("home a 2;uses 1 a;ahead 1 2", 3)
                .run("settle() = 0; count(1) = 1").ordered(0, 1, 2, 3)
                .run("loosen(1, 2) = 0; settle() = 1; count(1) = 0").ordered(0, 2, 1, 3);
        new Script("The order always respects all precedences / also one that the order has just met")
                .run("move(3, 0) = 0; ahead(3, 0) = 1; move(3, 1) = -4; move(0, 0) = -4; undo() = 1; move(3, 1) = 0")
                .ordered(0, 3, 1, 2);
    }

    private static void bitSets() {
        new Script("Sets of sections and of terms are bit sets / the lowest and the highest").told("sections 10", 1)
                .run("uses(0, 0, 1) = 1; uses(9, 11, 1) = 1; section(0, 2) = 1; section(9, 2) = 2048;"
                        + "term(0, 1) = 1; term(11, 1) = 512; home(11, 0) = -1; home(0, 9) = -1;"
                        + "section(0, 3) = 2048; section(9, 3) = 1; section(9, 6) = 1; section(0, 6) = 512;"
                        + "section(0, 7) = 513; section(9, 7) = 513; ahead(0, 9) = 1; section(9, 8) = 1;"
                        + "ahead(8, 9) = 2; section(9, 8) = 257");
        new Script("Sets of sections and of terms are bit sets / all terms").told("uses 2 lkjihgfedcba", 1)
                .run("section(2, 2) = 4095; section(1, 2) = 0; count(4) = 12");
    }

    // ---- notes and needs

    private static void earlyTerms() {
        new Script("A term is early in a section if the section uses it").run("home(0, 3) = -1; section(0, 4) = 0;"
                + "count(5) = 0; uses(0, 0, 1) = 1; section(0, 4) = 1; count(5) = 1; uses(0, 0, 0) = 1;"
                + "section(0, 4) = 0");
        new Script("and it has a home").run("uses(0, 11, 1) = 1; section(0, 4) = 0; count(5) = 0; home(11, 1) = -1;"
                + "section(0, 4) = 2048; home(11, -1) = 1; section(0, 4) = 0; count(5) = 0");
        new Script("which comes after this section in the order / just before, here, just after")
                .run("uses(2, 0, 1) = 1; home(0, 1) = -1; section(2, 4) = 0; home(0, 2) = 1; section(2, 4) = 0;"
                        + "home(0, 3) = 2; section(2, 4) = 1");
        new Script("which comes after this section in the order / by its place, not by its number")
                .told("order 3 2 1 0;uses 3 a;uses 0 b;home a 0;home b 3", 5).run("section(3, 4) = 1;"
                        + "section(0, 4) = 0; count(5) = 1; move(0, 0) = 1; section(3, 4) = 0; section(0, 4) = 2");
    }

    private static void notes() {
        new Script("A term has a note if it is early in some section / in none, in one, in all")
                .run("home(0, 3) = -1; uses(3, 0, 1) = 1; term(0, 2) = -1; count(1) = 0; uses(2, 0, 1) = 1;"
                        + "term(0, 2) = 2; count(1) = 1; uses(0, 0, 1) = 1; uses(1, 0, 1) = 1; term(0, 2) = 0;"
                        + "count(1) = 1; count(5) = 3");
        new Script("the note lies in the first section of the order in which the term is early")
                .told("order 2 3 1 0;home a 0;uses 1 a;uses 3 a", 4).run("term(0, 2) = 3; section(3, 5) = 1;"
                        + "section(1, 5) = 0; section(1, 4) = 1; uses(2, 0, 1) = 1; term(0, 2) = 2;"
                        + "section(3, 5) = 0; uses(2, 0, 0) = 1; uses(3, 0, 0) = 1; term(0, 2) = 1; section(1, 5) = 1");
        new Script("the note lies in the first section of the order in which the term is early / several in one")
                .told("home a 1;home l 3;uses 0 al", 3).run("section(0, 5) = 2049; term(0, 2) = 0; term(11, 2) = 0");
    }

    private static void lengths() {
        new Script("from this one to the last one before the home / the home comes next")
                .run("pages(0, 9) = 1; pages(1, 5) = 1; uses(0, 0, 1) = 1; home(0, 1) = -1; term(0, 3) = 9;"
                        + "home(0, 2) = 1; term(0, 3) = 14; pages(2, 7) = 1; term(0, 3) = 14");
        Script s = new Script("from this one to the last one before the home / the longest one")
                .told("sections 10;uses 0 a;home a 9", 3);
        for (int section = 0; section < 10; section++) {
            s.run("pages(" + section + ", 9) = 1");
        }
        s.run("term(0, 3) = 81; count(7) = 81; move(0, 8) = 1; term(0, 3) = 9; move(0, 9) = 0; term(0, 3) = 0");
        new Script("from this one to the last one before the home / by place, not by number")
                .told("order 3 1 0 2;pages 3 2;pages 1 4;pages 0 8;uses 3 a;home a 0", 6)
                .run("term(0, 3) = 6; uses(1, 0, 1) = 1; uses(3, 0, 0) = 1; term(0, 3) = 4");
    }

    private static void looseTerms() {
        new Script("A term is loose if some section uses it and it has no home / neither, one, both")
                .run("term(0, 4) = 0; home(0, 0) = -1; term(0, 4) = 0; uses(0, 0, 1) = 1; term(0, 4) = 0;"
                        + "home(0, -1) = 0; term(0, 4) = 1; count(2) = 1; uses(3, 0, 1) = 1; uses(0, 0, 0) = 1;"
                        + "term(0, 4) = 1; uses(3, 0, 0) = 1; term(0, 4) = 0; count(2) = 0");
        new Script("A term is loose if some section uses it and it has no home / all of them")
                .told("uses 3 abcdefghijkl", 1).run("count(2) = 12; term(11, 4) = 1; home(11, 3) = -1; count(2) = 11");
    }

    private static void needs() {
        new Script("A section needs another section if that is the home of a term that it uses / not itself")
                .run("uses(1, 0, 1) = 1; home(0, 1) = -1; section(1, 6) = 0; home(0, 2) = 1; section(1, 6) = 4;"
                        + "section(2, 6) = 0; home(0, -1) = 2; section(1, 6) = 0");
        new Script("A section needs another section if that is the home of a term that it uses / also an earlier one")
                .run("uses(3, 0, 1) = 1; home(0, 0) = -1; section(3, 6) = 1; section(3, 4) = 0");
        new Script("A section needs another section if that is the home of a term that it uses / by two terms, once")
                .told("uses 0 ab;home a 2;home b 2", 3).run("section(0, 6) = 4; uses(0, 0, 0) = 1; section(0, 6) = 4;"
                        + "uses(0, 1, 0) = 1; section(0, 6) = 0");
        new Script("A section needs another section if that is the home of a term that it uses / all others")
                .told("sections 10;home a 0;home b 1;home c 2;home d 3;home e 4;home f 5;home g 6;home h 7;home i 8", 10)
                .told("home j 9;uses 5 abcdefghij", 2).run("section(5, 6) = 991");
    }

    private static void cycles() {
        new Script("A cycle is a sequence of at least two different sections / no cycle").run("ring(-1) = 0;"
                + "ring(0) = -1; uses(0, 0, 1) = 1; home(0, 1) = -1; ring(-1) = 0; ring(0) = -1");
        new Script("A cycle is a sequence of at least two different sections / not one").run("uses(2, 0, 1) = 1;"
                + "home(0, 2) = -1; ring(-1) = 0; ring(0) = -1; count(8) = 0");
        new Script("A cycle is a sequence of at least two different sections / two").told("sections 2;home a 1;"
                + "home b 0;uses 0 ab;uses 1 ab", 5).run("ring(-1) = 2; ring(0) = 0; ring(1) = 1; ring(2) = -1");
        Script s = new Script("A cycle is a sequence of at least two different sections / all ten")
                .told("sections 10;home a 9;uses 0 a;home b 8;uses 9 b;home c 7;uses 8 c;home d 6;uses 7 d", 9)
                .told("home e 5;uses 6 e;home f 4;uses 5 f;home g 3;uses 4 g;home h 2;uses 3 h;home i 1;uses 2 i", 10)
                .run("ring(-1) = 0").told("home j 0;uses 1 j", 2).run("ring(-1) = 10; ring(0) = 0; ring(1) = 9;"
                        + "ring(2) = 8; ring(8) = 2; ring(9) = 1; ring(10) = -1; count(8) = 1");
        s.run("uses(1, 9, 0) = 1; ring(-1) = 0; count(8) = 0");
    }

    private static void severalCycles() {
        new Script("It may be written beginning with any of its sections / it is found wherever it begins")
                .told("home a 3;uses 2 a;home b 2;uses 3 b", 4).run("ring(-1) = 2; ring(0) = 2; ring(1) = 3")
                .told("sections 4;home a 2;uses 3 a;home b 1;uses 2 b;home c 3;uses 1 c", 7)
                .run("ring(-1) = 3; ring(0) = 1; ring(1) = 3; ring(2) = 2");
        new Script("The shortest cycle is the one with the fewest sections / though it is not the first")
                .told("sections 5;home a 0;home b 1;home c 2;home d 3;home e 4", 6)
                .told("uses 0 b;uses 1 c;uses 2 a;uses 3 e;uses 4 d", 5)
                .run("ring(-1) = 2; ring(0) = 3; ring(1) = 4; ring(2) = -1; uses(4, 3, 0) = 1; ring(-1) = 3;"
                        + "ring(0) = 0; ring(1) = 1; ring(2) = 2");
        new Script("of several (and of the ways to write them) the lexicographically first one / the ways")
                .told("home a 1;home b 2;home c 3;uses 3 a;uses 1 b;uses 2 c", 6)
                .run("ring(-1) = 3; ring(0) = 1; ring(1) = 2; ring(2) = 3").told("sections 4;home a 1;home b 2;"
                        + "home c 3;uses 1 c;uses 3 b;uses 2 a", 7).run("ring(0) = 1; ring(1) = 3; ring(2) = 2");
        new Script("of several (and of the ways to write them) the lexicographically first one / the second section")
                .told("home a 0;home b 1;home c 2;home d 3;uses 0 cd;uses 2 a;uses 3 a", 7)
                .run("ring(-1) = 2; ring(0) = 0; ring(1) = 2; uses(0, 1, 1) = 1; uses(1, 0, 1) = 1; ring(1) = 1");
        new Script("of several (and of the ways to write them) the lexicographically first one / the last section")
                .told("sections 6;home a 0;home b 1;home c 2;home d 3;home e 4;home f 5", 7)
                .told("uses 0 b;uses 1 ef;uses 4 a;uses 5 a", 4)
                .run("ring(-1) = 3; ring(0) = 0; ring(1) = 1; ring(2) = 4; uses(4, 0, 0) = 1; ring(2) = 5");
        new Script("of several (and of the ways to write them) the lexicographically first one / by number, not place")
                .told("order 3 2 1 0;home a 0;home b 1;home c 2;home d 3;uses 0 b;uses 1 a;uses 2 d;uses 3 c", 9)
                .run("ring(-1) = 2; ring(0) = 0; ring(1) = 1");
    }

    private static void components() {
        new Script("consists of the section itself / alone").run("section(0, 7) = 1; section(3, 7) = 8; count(8) = 0;"
                + "uses(3, 0, 1) = 1; home(0, 3) = -1; section(3, 7) = 8; count(8) = 0");
        new Script("from which one can come back to it / there, but not back").run("uses(0, 0, 1) = 1;"
                + "home(0, 1) = -1; section(0, 7) = 1; section(1, 7) = 2; count(8) = 0; uses(1, 1, 1) = 1;"
                + "home(1, 0) = -1; section(0, 7) = 3; section(1, 7) = 3; section(2, 7) = 4; count(8) = 1");
        new Script("any number of times / nine steps").told("sections 10;home a 9;uses 0 a;home b 8;uses 9 b;home c 7;"
                        + "uses 8 c;home d 6;uses 7 d;home e 5;uses 6 e;home f 4;uses 5 f;home g 3;uses 4 g;home h 2", 16)
                .told("uses 3 h;home i 1;uses 2 i;home j 0;uses 1 j", 5)
                .run("section(0, 7) = 1023; section(9, 7) = 1023; section(5, 7) = 1023; count(8) = 1;"
                        + "home(9, -1) = 0; section(0, 7) = 1; section(9, 7) = 512; count(8) = 0");
        new Script("any number of times / two cycles with a common section are one component")
                .told("home a 0;home b 1;home c 2;uses 0 b;uses 1 ac;uses 2 b", 6)
                .run("section(0, 7) = 7; section(2, 7) = 7; section(3, 7) = 8; count(8) = 1");
    }

    // ---- the best order

    private static void inversions() {
        new Script("the number of pairs of sections that stand the other way round / none").run("least(2) = 0;"
                + "settle() = 0").told("order 3 1 0 2", 1).run("least(2) = 0; settle() = 0").ordered(3, 1, 0, 2);
        new Script("the number of pairs of sections that stand the other way round / the one pair of two sections")
                .told("sections 2;home a 1;uses 0 a", 3).run("least(2) = 1; settle() = 1; least(2) = 0").ordered(1, 0);
        new Script("the number of pairs of sections that stand the other way round / all 45 pairs of ten sections")
                .told("sections 10;home a 9;uses 8 a;home b 8;uses 7 b;home c 7;uses 6 c;home d 6;uses 5 d;home e 5", 10)
                .told("uses 4 e;home f 4;uses 3 f;home g 3;uses 2 g;home h 2;uses 1 h;home i 1;uses 0 i", 9)
                .run("least(2) = 45; least(1) = 0; settle() = 45; settle() = 0");
    }

    private static void fewestNotes() {
        Script s = new Script("the one in which the fewest terms would have notes / none, though all have now")
                .told("sections 2;uses 0 abcdefghijkl", 2);
        for (int term = 0; term < 12; term++) {
            s.run("home(" + term + ", 1) = -1");
        }
        s.run("count(1) = 12; least(1) = 0; least(0) = 0; least(3) = 0; best(0) = 1; ahead(0, 1) = 1; least(1) = 12;"
                + "least(0) = 4095; least(3) = 12; best(0) = 0; best(1) = 1; pages(0, 9) = 1; least(3) = 108");
        new Script("the one in which the fewest terms would have notes / far from the present order")
                .told("sections 10;home a 9;uses 8 a;home b 8;uses 7 b;home c 7;uses 6 c;home d 6;uses 5 d;home e 5", 10)
                .told("uses 4 e;home f 4;uses 3 f;home g 3;uses 2 g;home h 2;uses 1 h;home i 1;uses 0 i;ahead 0 9", 10)
                .run("count(1) = 9; least(1) = 1; least(0) = 16; least(2) = 20")
                .bestIs(4, 3, 2, 1, 0, 9, 8, 7, 6, 5);
        new Script("of all orders that respect all precedences / one order alone")
                .told("sections 2;home a 1;uses 0 a;ahead 0 1", 4).run("least(1) = 1; least(0) = 1; least(2) = 0;"
                        + "best(0) = 0; best(1) = 1");
        new Script("the one in which the fewest terms would have notes / terms, not early uses")
                .told("home a 3;uses 0 a;uses 1 a;uses 2 a;home b 0;uses 3 b;home c 1;uses 3 c", 8)
                .run("least(1) = 1; least(0) = 1; least(2) = 0");
    }

    private static void fewestInversions() {
        new Script("of several the one with the fewest inversions / two orders without notes")
                .told("sections 3;home a 2;uses 0 a", 3).bestIs(1, 2, 0).run("least(2) = 2; move(1, 2) = 1;"
                        + "least(2) = 1").bestIs(2, 0, 1);
        new Script("of several the one with the fewest inversions / the present order, if it is as good")
                .told("order 2 3 0 1;home a 0;uses 3 a;home b 3;uses 0 b", 5).bestIs(2, 3, 0, 1)
                .run("least(1) = 1; least(2) = 0");
    }

    /** Of three sections that need each other in a ring one note is left, and two orders are as near. */
    private static void firstPlaceThatDiffers() {
        new Script("at the first place at which they differ, the section that comes earlier / the first place")
                .told("home a 1;uses 0 a;home b 2;uses 1 b;home c 0;uses 2 c", 6)
                .run("least(1) = 1; least(2) = 1; least(0) = 1").bestIs(0, 2, 1, 3);
        new Script("at the first place at which they differ, the section that comes earlier / a later place")
                .told("home a 2;uses 1 a;home b 3;uses 2 b;home c 1;uses 3 c", 6)
                .run("least(1) = 1; least(2) = 1; least(0) = 1").bestIs(0, 1, 3, 2);
        new Script("the section that comes earlier in the present order / not the one with the lower number")
                .told("order 3 2 1 0;home a 2;uses 3 a;home b 1;uses 2 b;home c 3;uses 1 c", 7)
                .run("least(1) = 1; least(2) = 1; least(0) = 1; settle() = 1").ordered(3, 1, 2, 0);
    }

    // ---- undoing and saving

    private static void undoing() {
        Script s = new Script("the latest 8 of them, the latest one first / nine calls");
        for (int pages = 2; pages <= 9; pages++) {
            s.run("pages(0, " + pages + ") = " + (pages - 1) + "; count(9) = " + (pages - 1));
        }
        s.run("pages(0, 1) = 9; count(9) = 8");
        for (int pages = 9; pages >= 2; pages--) {
            s.run("undo() = " + (pages - 2) + "; section(0, 1) = " + pages);
        }
        s.run("undo() = -4; section(0, 1) = 2; count(9) = 0");
        new Script("the latest 8 of them, the latest one first / eight calls, back to the beginning")
                .run("pages(0, 5) = 1; uses(0, 0, 1) = 1; home(0, 3) = -1; ahead(0, 1) = 1; loosen(0, 1) = 0;"
                        + "move(3, 1) = 1; settle() = 1; uses(2, 1, 1) = 1; count(9) = 8; undo() = 7; undo() = 6;"
                        + "undo() = 5; undo() = 4; undo() = 3; undo() = 2; undo() = 1; undo() = 0; section(0, 1) = 1;"
                        + "count(4) = 0; count(3) = 0; count(6) = 0; undo() = -4").ordered(0, 1, 2, 3);
        Script round = new Script("the latest 8 of them, the latest one first / after the eight were overwritten twice");
        for (int i = 0; i < 17; i++) {
            round.run("home(0, " + i % 4 + ") = " + (i == 0 ? -1 : (i - 1) % 4));
        }
        for (int i = 7; i >= 0; i--) {
            round.run("undo() = " + i + "; term(0, 0) = " + (i + 8) % 4);
        }
        round.run("undo() = -4; term(0, 0) = 0");
        new Script("The successful calls of / refused calls leave no trace").run("pages(0, 2) = 1; pages(0, 10) = -3;"
                + "pages(4, 1) = -2; uses(0, 12, 1) = -2; uses(0, 0, 2) = -3; home(12, 0) = -2; ahead(1, 0) = -4;"
                + "loosen(0, 1) = -4; move(0, 4) = -2; count(9) = 1; undo() = 0; section(0, 1) = 1; undo() = -4");
    }

    private static void undoingWhatChangesNothing() {
        String[] calls = {"pages(0, 1) = 1", "uses(0, 0, 0) = 0", "home(0, -1) = -1", "move(2, 2) = 0", "settle() = 0"};
        for (String call : calls) {
            new Script("also if they change nothing / " + call).run("count(9) = 0; " + call + "; count(9) = 1;"
                    + call + "; count(9) = 2; undo() = 1; undo() = 0; undo() = -4").ordered(0, 1, 2, 3);
        }
        new Script("also if they change nothing / they push out what changed something").run("pages(0, 9) = 1;"
                + "pages(0, 9) = 9; uses(0, 0, 0) = 0; home(0, -1) = -1; move(2, 2) = 0; settle() = 0;"
                + "pages(1, 1) = 1; pages(2, 1) = 1; pages(3, 1) = 1; undo() = 7; undo() = 6; undo() = 5; undo() = 4;"
                + "undo() = 3; undo() = 2; undo() = 1; undo() = 0; undo() = -4; section(0, 1) = 9");
    }

    private static void saving() {
        new Script("Two saved states, 0 and 1").run("back(0) = -4; back(1) = -4; keep(-1) = -3; keep(2) = -3;"
                + "back(-1) = -3; back(2) = -3; pages(0, 2) = 1; keep(0) = 0; back(1) = -4; pages(0, 3) = 2;"
                + "keep(1) = 0; pages(0, 4) = 3; back(0) = 0; section(0, 1) = 2; back(1) = 0; section(0, 1) = 3");
        new Script("keep whole manuals: n, pages, uses, homes, the order and the precedences")
                .told("sections 10;pages 9 9;uses 9 l;home l 8;uses 8 a;home a 9;order 9 8 7 6 5 4 3 2 1 0;ahead 9 0", 8)
                .run("keep(1) = 1").told("sections 2", 1).run("keep(0) = 0; back(1) = 1; count(0) = 10;"
                        + "section(9, 1) = 9; section(8, 1) = 1; section(9, 2) = 2048; section(8, 2) = 1;"
                        + "term(11, 0) = 8; term(0, 0) = 9; count(3) = 2; count(4) = 2; section(0, 8) = 512;"
                        + "count(6) = 1; count(11) = 18").ordered(9, 8, 7, 6, 5, 4, 3, 2, 1, 0)
                .run("back(0) = 0; count(0) = 2; count(3) = 0; count(4) = 0; count(6) = 0; count(11) = 2").ordered(0, 1);
    }

    // ---- results

    private static void errorCodes() {
        new Script("If several error codes apply, the first one in this order is returned / UNKNOWN before OUTSIDE")
                .run("pages(4, 0) = -2; pages(-1, 10) = -2; uses(4, 0, 2) = -2; uses(0, 12, 2) = -2;"
                        + "uses(-1, -1, -1) = -2; section(4, 9) = -2; section(-1, -1) = -2; term(12, 5) = -2;"
                        + "term(-1, -1) = -2");
        new Script("If several error codes apply, the first one in this order is returned / UNKNOWN before NOT")
                .run("ahead(0, 1) = 1; ahead(1, 4) = -2; ahead(4, 0) = -2; ahead(0, 0) = -2; loosen(4, 4) = -2;"
                        + "loosen(1, -1) = -2; move(0, 4) = -2; move(4, 0) = -2; after(0, 4) = -2; after(4, 0) = -2;"
                        + "move(1, -1) = -2; after(1, -1) = -2");
        new Script("If several error codes apply, the first one in this order is returned / OUTSIDE before NOT")
                .run("back(2) = -3; back(-1) = -3; back(0) = -4");
        new Script("If several error codes apply, the first one in this order is returned / OUTSIDE before FULL")
                .type("0".repeat(200)).run("write(256) = -3; write(-1) = -3; write(255) = -5");
        new Script("it is returned only if no error code applies").run("term(12, 0) = -2; term(0, -1) = -3;"
                + "term(-1, 2) = -2; ring(-2) = -3; home(12, -1) = -2; home(0, -2) = -2; term(0, 0) = -1;"
                + "term(0, 2) = -1; ring(0) = -1; home(0, -1) = -1");
    }

    private static void fiveHundredCalls() {
        Script s = new Script("An object is used for at most 512 calls / to the last one")
                .told("sections 10;home a 9;uses 0 a", 3);
        int pages = 1;
        for (int round = 1; s.calls() + 7 <= Pair.MOST_CALLS; round++) {
            s.run("pages(9, " + (pages % 9 + 1) + ") = " + pages + "; least(2) = 9; would(0, 1) = 0; move(0, 9) = 0;"
                    + "least(2) = 0; undo() = " + Math.min(round, 7) + "; at(0) = 0");
            pages = pages % 9 + 1;
        }
        while (s.calls() < Pair.MOST_CALLS) {
            s.run("section(9, 1) = " + pages);
        }
    }
}
