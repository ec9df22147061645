/**
 * The edges that the document names for the text: its length, its clauses, its tokens and its faults. Each run is
 * named by the words that it tests, quoted; behind a slash stands which of their edges.
 */
public final class TextEdgesTest {
    private static final String[] WORDS = {"sections", "pages", "home", "uses", "ahead", "order"};
    /** A right clause of each kind for four sections. */
    private static final String[] CLAUSES = {"sections 4", "pages 3 9", "home l 3", "uses 3 l", "ahead 0 3",
        "order 3 2 1 0"};

    public static void main(String[] args) {
        length();
        numberOfClauses();
        semicolons();
        sectionsAtThatPoint();
        sections();
        pages();
        home();
        singleLetters();
        uses();
        ahead();
        order();
        tokens();
        blanks();
        blanksThatAreNeeded();
        digits();
        endsTooEarly();
        firstTokenAtFault();
        tokensThatCannotStand();
        Script.end();
    }

    private static void length() {
        String full = "pages 0 1;".repeat(19) + "pages 0 9 ";
        new Script("The text is a buffer of at most 200 bytes / 199, 200, 201").type(full.substring(1))
                .run("count(10) = 199; write(32) = 200; count(10) = 200; write(32) = -5; count(10) = 200; fault() = 0");
        new Script("The text is a buffer of at most 200 bytes / all of them are read").told(full, 20)
                .run("section(0, 1) = 9").told(" ".repeat(191) + "pages 0 5", 1).run("section(0, 1) = 5");
        new Script("The text is a buffer of at most 200 bytes / a fault in the last one")
                .faulty(" ".repeat(191) + "pages 0 0", 199);
        new Script("The text is a buffer of at most 200 bytes / the byte that found no room is not there")
                .type(" ".repeat(191) + "pages 0 5").run("write(59) = -5; write(48) = -5; fault() = -1; tell() = 1;"
                        + "section(0, 1) = 5; write(59) = 1");
    }

    private static void numberOfClauses() {
        String twentyThree = "pages 0 2;".repeat(5) + "uses0a;".repeat(18);
        new Script("It consists of 1 to 24 clauses / none").faulty("", 0).faulty(" ", 1);
        new Script("It consists of 1 to 24 clauses / one of each kind").told(CLAUSES[0], 1).told(CLAUSES[1], 1)
                .told(CLAUSES[2], 1).told(CLAUSES[3], 1).told(CLAUSES[5], 1).told(CLAUSES[4], 1);
        new Script("It consists of 1 to 24 clauses / 23").told(twentyThree.substring(0, twentyThree.length() - 1), 23);
        new Script("It consists of 1 to 24 clauses / 24").told(twentyThree + "pages 3 7", 24)
                .run("section(0, 1) = 2; section(3, 1) = 7");
        int end = twentyThree.length() + 6;
        new Script("the semicolon after the 24th clause").freshly(twentyThree + "uses3l;", end)
                .freshly(twentyThree + "uses3l;uses3l", end).freshly(twentyThree + "uses3l  ; ", end + 2)
                .freshly(twentyThree + "uses3l;;", end).freshly(twentyThree + "uses3l;x", end);
    }

    private static void semicolons() {
        new Script("with a semicolon between two clauses / none").freshly("pages 0 1 pages 0 2", 10)
                .freshly("pages 0 1pages 0 2", 9).freshly("order 0 1 2 3order 0 1 2 3", 13);
        new Script("with a semicolon between two clauses / two").freshly("pages 0 1;;pages 0 2", 10);
        new Script("with a semicolon between two clauses / before the first one").freshly(";pages 0 1", 0)
                .freshly("  ;pages 0 1", 2).freshly(";", 0);
        new Script("with a semicolon between two clauses / after the last one").freshly("pages 0 1;", 10)
                .freshly("pages 0 1;  ", 12);
        new Script("with a semicolon between two clauses / another sign").freshly("pages 0 1,pages 0 2", 9)
                .freshly("pages 0 1:pages 0 2", 9).freshly("pages 0 1<pages 0 2", 9).freshly("pages 0 1.", 9)
                .freshly("pages 0 1" + (char) (';' + 128), 9);
        new Script("with a semicolon between two clauses / inside one").freshly("pages;0 1", 5)
                .freshly("pages 0;1", 7).freshly("order 0 1;2 3", 9).freshly("home;a 0", 4).freshly("uses 0;a", 6);
    }

    private static void sectionsAtThatPoint() {
        new Script("sections of the manual as it is at that point / fewer than before")
                .freshly("sections 3;pages 3 1", 17).freshly("sections 3;home a 3", 18)
                .freshly("sections 3;uses 3 a", 16).freshly("sections 3;ahead 3 0", 17)
                .freshly("sections 3;ahead 0 3", 19).freshly("sections 3;order 0 1 3", 21)
                .freshly("pages 3 1;sections 3", -1);
        new Script("sections of the manual as it is at that point / more than before")
                .freshly("sections 10;pages 9 1", -1).freshly("sections 10;home a 9", -1)
                .freshly("sections 10;uses 9 a", -1).freshly("sections 10;ahead 9 0", -1)
                .freshly("sections 10;ahead 0 9", -1).freshly("pages 4 1;sections 10", 6)
                .freshly("sections 5;sections 4;pages 4 1", 28);
        new Script("sections of the manual as it is at that point / of the present manual").told("sections 2", 1)
                .faulty("pages 2 1", 6).faulty("pages 1 1", -1).told("sections 10", 1).faulty("pages 10 1", 6)
                .faulty("pages 9 1", -1);
    }

    private static void sections() {
        new Script("the manual begins anew with N sections, 2 to 10").freshly("sections 1", 9)
                .freshly("sections 2", -1).freshly("sections 10", -1).freshly("sections 11", 9).freshly("sections 0", 9)
                .freshly("sections 00", 9).freshly("sections 01", 9).freshly("sections 02", -1)
                .freshly("sections 20", 9).freshly("sections 99", 9).freshly("sections 100", 9);
        new Script("the manual begins anew with N sections, 2 to 10 / as many as before, nothing is left")
                .run("pages(3, 9) = 1; uses(3, 11, 1) = 1; home(11, 0) = -1; ahead(1, 2) = 1; move(0, 3) = 1")
                .told("sections 4", 1).ordered(0, 1, 2, 3).run("count(11) = 4; count(4) = 0; count(3) = 0;"
                        + "count(6) = 0; count(9) = 0; section(2, 8) = 0; term(11, 0) = -1; section(3, 2) = 0");
        new Script("the manual begins anew with N sections, 2 to 10 / what a section had that was away is gone")
                .told("sections 10;pages 9 9;uses 9 a;ahead 8 9;order 9 8 7 6 5 4 3 2 1 0", 5)
                .told("sections 2", 1).ordered(0, 1).told("sections 10", 1).ordered(0, 1, 2, 3, 4, 5, 6, 7, 8, 9)
                .run("section(9, 1) = 1; section(9, 2) = 0; section(9, 8) = 0; count(11) = 10");
        new Script("(saved states stay)").run("pages(0, 9) = 1; keep(0) = 0; pages(0, 8) = 9; keep(1) = 0")
                .told("sections 2;pages 0 2", 2).run("back(1) = 0; count(0) = 4; section(0, 1) = 8; back(0) = 0;"
                        + "count(0) = 4; section(0, 1) = 9");
    }

    private static void pages() {
        new Script("section S has L pages, 1 to 9").freshly("pages 0 0", 8).freshly("pages 0 1", -1)
                .freshly("pages 0 9", -1).freshly("pages 0 10", 8).freshly("pages 0 99", 8).freshly("pages 0 09", -1)
                .freshly("pages 3 1", -1).freshly("pages 4 1", 6).freshly("pages 99 1", 6);
        new Script("section S has L pages, 1 to 9 / told").told("pages 0 9;pages 3 2", 2).run("section(0, 1) = 9;"
                + "section(1, 1) = 1; section(3, 1) = 2; count(11) = 13").told("pages 0 1", 1)
                .run("section(0, 1) = 1; count(11) = 5");
    }

    private static void home() {
        new Script("the home of term T is section S").freshly("home a 0", -1).freshly("home l 3", -1)
                .freshly("home m 0", 5).freshly("home z 0", 5).freshly("home a 4", 7).freshly("home ab 0", 5)
                .freshly("home al 0", 5).freshly("home A 0", 5).freshly("home 0 0", 5).freshly("home ; 0", 5);
        new Script("the home of term T is section S / it may have another one").told("home l 0", 1)
                .run("term(11, 0) = 0").told("home l 3;home a 3", 2).run("term(11, 0) = 3; term(0, 0) = 3;"
                        + "section(3, 3) = 2049; section(0, 3) = 0; count(3) = 2");
    }

    private static void singleLetters() {
        Script s = new Script("T is a single letter a to l");
        for (char letter = 'a'; letter <= 'z'; letter++) {
            s.freshly("home " + letter + " 0", letter <= 'l' ? -1 : 5).freshly("home " + letter + "a 0", 5);
        }
    }

    private static void uses() {
        new Script("a row of 1 to 12 letters a to l").freshly("uses 0", 6).freshly("uses 0 a", -1)
                .freshly("uses 0 abcdefghijkl", -1).freshly("uses 0 abcdefghijkla", 7)
                .freshly("uses 0 aaaaaaaaaaaa", -1).freshly("uses 0 aaaaaaaaaaaaa", 7).freshly("uses 0 m", 7)
                .freshly("uses 0 z", 7).freshly("uses 0 lm", 7).freshly("uses 0 ml", 7)
                .freshly("uses 0 abcdefghijkm", 7).freshly("uses 4 a", 5).freshly("uses 0 7", 7).freshly("uses 0 a a", 9);
        new Script("section S uses also all terms of W").told("uses 3 a;uses 3 l", 2).run("section(3, 2) = 2049")
                .told("uses 3 la", 1).run("section(3, 2) = 2049; count(4) = 2").told("uses 3 abcdefghijkl", 1)
                .run("section(3, 2) = 4095; section(0, 2) = 0");
    }

    private static void ahead() {
        new Script("A and B are different").freshly("ahead 0 0", 8).freshly("ahead 3 3", 8).freshly("ahead 3 03", 8)
                .freshly("ahead 00 0", 9).freshly("ahead 4 4", 6).freshly("ahead 0 1", -1).freshly("ahead 1 0", -1)
                .freshly("ahead 0 4", 8).freshly("ahead 4 0", 6);
        new Script("nothing happens if ahead() would return an error code / B comes before A")
                .told("ahead 3 0;pages 0 2", 2).run("count(6) = 0; section(0, 8) = 0; section(3, 8) = 0;"
                        + "section(0, 1) = 2").told("order 3 2 1 0;ahead 3 0;ahead 0 3", 3)
                .run("count(6) = 1; section(0, 8) = 8; section(3, 8) = 0");
        new Script("nothing happens if ahead() would return an error code / there is this precedence already")
                .told("ahead 0 3;ahead 0 3", 2).run("count(6) = 1; section(3, 8) = 1").told("ahead 0 3;ahead 1 3", 2)
                .run("count(6) = 2; section(3, 8) = 3");
    }

    private static void order() {
        new Script("R consists of n numbers, all sections, each once / as many, fewer, more")
                .freshly("order 0 1 2 3", -1).freshly("order 0 1 2", 11).freshly("order 0 1 2;pages 0 1", 11)
                .freshly("order 0 1 2 3 0", 14).freshly("order 0 1 2 3 4", 14).freshly("order", 5)
                .freshly("order;", 5).freshly("sections 2;order 1", 18).freshly("sections 2;order 1 0", -1)
                .freshly("sections 2;order 1 0 1", 21).freshly("sections 10;order 9 8 7 6 5 4 3 2 1 0", -1)
                .freshly("sections 10;order 9 8 7 6 5 4 3 2 1", 35);
        new Script("a section that occurs in the same R before").freshly("order 0 0 1 2", 8)
                .freshly("order 0 1 2 0", 12).freshly("order 3 1 2 03", 12).freshly("order 1 2 1 0", 10)
                .freshly("order 0 1 2 3;order 0 1 2 3", -1);
        new Script("R consists of n numbers, all sections, each once / no such section").freshly("order 4 0 1 2", 6)
                .freshly("order 0 1 2 4", 12).freshly("order 0 1 2 a", 12).freshly("order 0 1 2 10", 12);
        new Script("they are the order from then on").told("order 3 2 1 0", 1).ordered(3, 2, 1, 0)
                .told("sections 2;order 1 0", 2).ordered(1, 0)
                .told("sections 10;order 9 0 8 1 7 2 6 3 5 4", 2).ordered(9, 0, 8, 1, 7, 2, 6, 3, 5, 4);
        new Script("nothing happens if this order does not respect all precedences")
                .told("ahead 0 1;ahead 2 3;order 1 0 2 3", 3).ordered(0, 1, 2, 3).told("order 0 1 3 2;pages 0 5", 2)
                .ordered(0, 1, 2, 3).run("section(0, 1) = 5; count(6) = 2").told("order 2 0 3 1", 1).ordered(2, 0, 3, 1);
        new Script("nothing happens if this order does not respect all precedences / one given in the same text")
                .told("order 3 2 1 0;ahead 3 0;order 0 1 2 3", 3).ordered(3, 2, 1, 0);
    }

    private static void tokens() {
        Script s = new Script("rows of small letters (a to z, as many as follow each other)");
        for (String word : WORDS) {
            s.freshly(word + "s 0", 0).freshly(word.substring(1) + " 0", 0).freshly("a" + word, 0)
                    .freshly(word.substring(0, word.length() - 1), 0).freshly(word + "z", 0)
                    .freshly(word, word.length()).freshly(Character.toUpperCase(word.charAt(0)) + word.substring(1), 0);
        }
        for (String clause : CLAUSES) {
            for (int i = 0; clause.charAt(i) != ' '; i++) {
                s.freshly(clause.substring(0, i) + "x" + clause.substring(i + 1), 0)
                        .freshly(clause.substring(0, i) + clause.substring(i + 1), 0);
            }
        }
        s.freshly("home a`0", 6).freshly("home a{0", 6).freshly("uses 0 a`", 8).freshly("uses 0 a{", 8)
                .freshly("home aA 0", 6).freshly("uses 0 aL", 8);
        new Script("rows of digits (as many as follow each other)").freshly("pages 0 1 1", 10).freshly("pages 00 09", -1)
                .freshly("pages 0 1/", 9).freshly("pages 0 1:", 9).freshly("pages / 1", 6).freshly("pages : 1", 6)
                .freshly("order 0123", 6).freshly("order 0 123", 8).freshly("sections 1 0", 9);
        new Script("and single other bytes").freshly("pages 0 1" + (char) 0, 9).freshly("pages 0 1" + (char) 255, 9)
                .freshly((char) 0 + "pages 0 1", 0).freshly("pages" + (char) 255 + "0 1", 5).freshly("-1", 0)
                .freshly("pages -1 1", 6).freshly("pages 0 +1", 8).freshly("pages 0 1;;;", 10).freshly("\t", 0);
    }

    private static void blanks() {
        new Script("Blanks (byte 32) may stand before each token and after the last one")
                .freshly(" pages 0 1", -1).freshly("   pages   0   1   ;   uses   0   a   ", -1)
                .freshly("pages 0 1 ", -1).freshly("pages 0 1    ", -1).freshly("pages 0 1 ;pages 0 1", -1)
                .freshly("pages 0 1; pages 0 1", -1).freshly("  home  l  3  ", -1).freshly("  ahead  0  3  ", -1)
                .freshly("  order  3  2  1  0  ", -1).freshly("  sections  10  ", -1);
        new Script("Blanks (byte 32) may stand before each token and after the last one / not inside a token")
                .freshly("pa ges 0 1", 0).freshly("uses 0 a b", 9).freshly("sections 1 0", 9);
        new Script("Blanks (byte 32) may stand before each token and after the last one / no other byte is a blank")
                .freshly("pages\t0 1", 5).freshly("pages 0\t1", 7).freshly("pages 0 1\t", 9).freshly("pages 0 1\n", 9)
                .freshly("pages 0 1\r", 9).freshly("\tpages 0 1", 0).freshly("pages 0 1" + (char) 31, 9)
                .freshly("pages 0 1" + (char) 33, 9).freshly("pages 0 1" + (char) 160, 9)
                .freshly("pages" + (char) 0 + "0 1", 5);
    }

    private static void blanksThatAreNeeded() {
        new Script("they are needed only between two rows of letters and between two rows of digits / not elsewhere")
                .freshly("pages0 1", -1).freshly("home a0", -1).freshly("uses0a", -1).freshly("uses3abcdefghijkl", -1)
                .freshly("ahead0 3", -1).freshly("order3 2 1 0", -1).freshly("sections10", -1)
                .freshly("sections10;pages9 9;uses9l;home l9;ahead0 9", -1);
        new Script("they are needed only between two rows of letters and between two rows of digits / letters")
                .freshly("homea 0", 0).freshly("home a0", -1);
        new Script("they are needed only between two rows of letters and between two rows of digits / digits")
                .freshly("pages 01", 8).freshly("pages 011", 6).freshly("ahead 01", 8).freshly("order 3 2 10", 10)
                .freshly("order 32 1 0", 6);
    }

    private static void digits() {
        new Script("A number has one or two digits").freshly("pages 3 9", -1).freshly("pages 03 09", -1)
                .freshly("pages 003 9", 6).freshly("pages 3 009", 8).freshly("sections 010", 9).freshly("home a 000", 7)
                .freshly("uses 000 a", 5).freshly("ahead 000 1", 6).freshly("ahead 0 001", 8)
                .freshly("order 0 1 2 003", 12).freshly("sections 00000000000000000000000000000002", 9)
                .freshly("pages 4294967296 1", 6).freshly("pages 0 4294967297", 8).freshly("pages 0 18446744073709551617", 8);
        new Script("A number has one or two digits / with a zero before it").told("sections 05;pages 04 07", 2)
                .run("count(0) = 5; section(4, 1) = 7").told("home a 04;uses 03 a;ahead 00 01;order 04 03 02 00 01", 4)
                .ordered(4, 3, 2, 0, 1).run("term(0, 0) = 4; section(3, 2) = 1; section(1, 8) = 1");
    }

    private static void endsTooEarly() {
        new Script("the length of the text if it ends too early (0 if it is empty) / empty").run("fault() = 0;"
                + "count(10) = 0; tell() = -4; write(32) = 1; fault() = 1; erase() = 1; fault() = 0");
        Script s = new Script("the length of the text if it ends too early (0 if it is empty) / after each token");
        for (String clause : CLAUSES) {
            for (int end = clause.indexOf(' '); end >= 0; end = clause.indexOf(' ', end + 1)) {
                s.freshly(clause.substring(0, end), end).freshly(clause.substring(0, end) + "   ", end + 3)
                        .freshly("uses0a;" + clause.substring(0, end), end + 7);
            }
            s.freshly(clause + ";", clause.length() + 1).freshly(clause, -1);
        }
        new Script("the length of the text if it ends too early (0 if it is empty) / 200 bytes")
                .freshly(" ".repeat(200), 200).freshly(" ".repeat(195) + "order", 200)
                .freshly(" ".repeat(190) + "pages 0 1;", 200);
    }

    private static void firstTokenAtFault() {
        new Script("the place (counted from 0) of the first byte of the first token that cannot stand there")
                .freshly("x", 0).freshly("   x", 3).freshly("pages   9   0", 8).freshly("pages 0   00", 10)
                .freshly("uses 0   abcm", 9).freshly("pages 9 0;x", 6).freshly("pages 0 1;  pages 0 1;  x 0", 24);
        new Script("NOT if the text has a fault / nothing of what is right before it is carried out")
                .faulty("pages 0 9;sections 2;x", 21).run("section(0, 1) = 1; count(0) = 4");
    }

    /** The list of the document, with what would be right beside each fault. */
    private static void tokensThatCannotStand() {
        new Script("a number out of its range or with more than two digits").freshly("pages 0 9", -1)
                .freshly("pages 0 10", 8).freshly("pages 0 009", 8);
        new Script("a row of other letters or of more letters than allowed").freshly("uses 0 l", -1)
                .freshly("uses 0 m", 7).freshly("home a 0", -1).freshly("home aa 0", 5)
                .freshly("uses 0 lllllllllllll", 7).freshly("pagesx 0 1", 0);
        new Script("a B equal to A").freshly("ahead 2 3", -1).freshly("ahead 2 2", 8);
        new Script("the first token that cannot stand there / one of another kind").freshly("pages a 1", 6).freshly("pages 0 a", 8).freshly("home 1 1", 5)
                .freshly("home a a", 7).freshly("uses a a", 5).freshly("uses 0 0", 7).freshly("ahead a 1", 6)
                .freshly("ahead 0 a", 8).freshly("order a 1 2 3", 6).freshly("sections a", 9).freshly("5 sections", 0);
    }
}
