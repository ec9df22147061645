/** Promises 2 to 5: write, erase, fault, tell. */
public final class TextTest {
    public static void main(String[] args) {
        writeAndErase();
        ends();
        blanksAndTokens();
        numbers();
        clauses();
        manyClauses();
        telling();
        tellingPrecedencesAndOrders();
        tellingAndHistory();
        Script.end();
    }

    private static void writeAndErase() {
        Script s = new Script("write").run("erase() = 0; write(-1) = -3; write(256) = -3; write(0) = 1;"
                + "write(255) = 2; write(2147483647) = -3; write(-2147483648) = -3; count(10) = 2; erase() = 2;"
                + "count(10) = 0; erase() = 0");
        s.type("x".repeat(199)).run("count(10) = 199; write(59) = 200; write(59) = -5; write(256) = -3;"
                + "write(-1) = -3; count(10) = 200; fault() = 0; erase() = 200; write(7) = 1");
    }

    private static void ends() {
        new Script("ends").freshly("", 0).freshly(" ", 1).freshly("   ", 3).freshly("pages", 5).freshly("pages ", 6)
                .freshly("pages 0", 7).freshly("pages 0  ", 9).freshly("pages 0 1;", 10).freshly("pages 0 1; ", 11)
                .freshly("sections", 8).freshly("home", 4).freshly("home a", 6).freshly("uses", 4).freshly("uses 0", 6)
                .freshly("ahead", 5).freshly("ahead 0", 7).freshly("order", 5).freshly("order 0 1 2", 11)
                .freshly("order 0 1 2 ", 12).freshly("pages 0 1", -1).freshly("pages 0 1   ", -1).freshly(";", 0)
                .freshly(" ;", 1).freshly("pages 0 1;;", 10).freshly("pages 0 1 ; ;", 12);
    }

    private static void blanksAndTokens() {
        new Script("tokens").freshly("pages0 1", -1).freshly("  pages   0    1  ;uses0a", -1).freshly("homea0", 0)
                .freshly("home a0", -1).freshly("home  a  0", -1).freshly("uses 0abc;home b3;order3 2 1 0", -1)
                .freshly("pages 01", 8).freshly("pages 0 1 1", 10).freshly("pages 0 1a", 9).freshly("pages 0 1 home a 0", 10)
                .freshly("Pages 0 1", 0).freshly("pages -1 1", 6).freshly("pages 0,1", 7).freshly("pages 0\t1", 7)
                .freshly("pages 0 1\n", 9).freshly("page 0 1", 0).freshly("pagess 0 1", 0).freshly("0 pages 1", 0)
                .freshly("pag es 0 1", 0).freshly("uses 0 a b", 9).freshly("uses a 0", 5).freshly("home 0 a", 5)
                .freshly("home a b", 7).freshly("pages 0 1" + (char) 255, 9).freshly((char) 0 + "pages 0 1", 0)
                .freshly("pages 0 1" + (char) 0, 9).freshly("pages 0 `", 8).freshly("pages 0 {", 8).freshly("pages 0 /", 8)
                .freshly("pages 0 :", 8).freshly("uses 0 `", 7).freshly("uses 0 {", 7).freshly("sections 3:", 10)
                .freshly("sections 3<", 10).freshly("sections;3", 8).freshly("sections 3 " + (char) 160, 11);
    }

    private static void numbers() {
        new Script("numbers").freshly("sections 1", 9).freshly("sections 0", 9).freshly("sections 2", -1)
                .freshly("sections 02", -1).freshly("sections 002", 9).freshly("sections 10", -1).freshly("sections 11", 9)
                .freshly("sections 99", 9).freshly("sections 010", 9).freshly("sections 1 0", 9)
                .freshly("pages 3 1", -1).freshly("pages 03 01", -1).freshly("pages 4 1", 6).freshly("pages 10 1", 6)
                .freshly("pages 000 1", 6).freshly("pages 0 0", 8).freshly("pages 0 00", 8).freshly("pages 0 9", -1)
                .freshly("pages 0 10", 8).freshly("pages 0 009", 8).freshly("pages 00 09", -1)
                .freshly("pages 0 99999999999999999999", 8).freshly("pages 4294967296 1", 6);
    }

    private static void clauses() {
        new Script("clauses").freshly("home l 3", -1).freshly("home m 3", 5).freshly("home aa 3", 5).freshly("home z 0", 5)
                .freshly("home a 4", 7).freshly("home a 03", -1).freshly("uses 3 l", -1).freshly("uses 4 l", 5)
                .freshly("uses 3 m", 7).freshly("uses 3 am", 7).freshly("uses 3 abcdefghijkl", -1)
                .freshly("uses 3 aaaaaaaaaaaa", -1).freshly("uses 3 abcdefghijkla", 7).freshly("uses 3 3", 7)
                .freshly("ahead 0 3", -1).freshly("ahead 3 0", -1).freshly("ahead 0 4", 8).freshly("ahead 4 0", 6)
                .freshly("ahead 2 2", 8).freshly("ahead 2 02", 8).freshly("ahead 0 1 2", 10)
                .freshly("order 0 1 2 3", -1).freshly("order 3 2 1 0", -1).freshly("order 0 1 2 3 0", 14)
                .freshly("order 0 1 0 3", 10).freshly("order 0 1 00 3", 10).freshly("order 0 1 4 3", 10)
                .freshly("order 0 1 2;", 11).freshly("order 0 1 2 a", 12).freshly("order 0123", 6)
                .freshly("sections 2;pages 2 1", 17).freshly("sections 2;pages 1 1", -1)
                .freshly("sections 10;pages 9 1;pages 10 1", 28).freshly("pages 9 1;sections 10", 6)
                .freshly("sections 2;order 1 0", -1).freshly("sections 2;order 1 0 2", 21)
                .freshly("sections 3;order 1 0", 20).freshly("sections 3;sections 5;order 4 3 2 1 0", -1)
                .freshly("sections 10;order 9 8 7 6 5 4 3 2 1 0", -1).freshly("sections 2;sections 1", 20);
        new Script("fault changes nothing").type("sections 7;uses 0 a;home a 6").run("fault() = -1; count(0) = 4;"
                + "count(3) = 0; count(4) = 0; fault() = -1; count(10) = 28; tell() = 3; count(0) = 7; count(1) = 1;"
                + "count(10) = 0");
        new Script("a fault late in the text").type("sections 7;uses 0 a;home a 7").run("fault() = 27; tell() = -4;"
                + "count(0) = 4; count(4) = 0; count(3) = 0; count(10) = 28");
    }

    private static void manyClauses() {
        String many = "uses0a;".repeat(23) + "uses1b";
        new Script("24 clauses").told(many, 24).run("section(0, 2) = 1; section(1, 2) = 2");
        new Script("25 clauses").freshly(many + ";", many.length()).freshly(many + "  ;uses0a", many.length() + 2)
                .freshly(many + " uses0a", many.length() + 1);
        String full = "uses0a;".repeat(20) + "sections 9".concat(" ".repeat(50));
        new Script("200 bytes").told(full, 21).run("count(0) = 9");
        String ending = "uses0a;".repeat(20) + " ".repeat(60);
        new Script("200 bytes that end too early").faulty(ending, 200);
    }

    private static void telling() {
        new Script("pages, home, uses").told("pages 1 9;pages 2 3;home a 2;home l 0;uses 0 al;uses 0 b;uses 3 l", 7)
                .run("section(1, 1) = 9; section(2, 1) = 3; section(0, 1) = 1; term(0, 0) = 2; term(11, 0) = 0;"
                        + "section(0, 2) = 2051; section(3, 2) = 2048; count(11) = 14; term(0, 3) = 10")
                .told("home a 1;pages 1 1;uses 0 c", 3)
                .run("term(0, 0) = 1; section(1, 1) = 1; section(0, 2) = 2055; term(0, 3) = 1");
        new Script("sections begins anew").run("uses(0, 0, 1) = 1; home(0, 3) = -1; pages(2, 5) = 1; move(0, 2) = 1;"
                        + "ahead(1, 2) = 1; keep(0) = 1")
                .told("sections 4", 1).ordered(0, 1, 2, 3)
                .run("count(3) = 0; count(4) = 0; count(6) = 0; count(11) = 4; back(0) = 1; count(11) = 8")
                .told("sections 2;pages 1 4", 2).run("count(11) = 5; at(2) = -2; pages(2, 1) = -2").ordered(0, 1)
                .told("sections 10", 1).ordered(0, 1, 2, 3, 4, 5, 6, 7, 8, 9).run("count(11) = 10; home(0, 9) = -1")
                .run("back(0) = 1; count(0) = 4").ordered(1, 2, 0, 3);
        new Script("clauses before sections are lost").told("uses 0 a;home a 1;sections 3;uses 1 b", 4)
                .run("count(4) = 1; count(3) = 0; count(0) = 3");
    }

    private static void tellingPrecedencesAndOrders() {
        new Script("ahead").told("ahead 0 1;ahead 0 1;ahead 2 1;ahead 3 2;ahead 2 3", 5)
                .run("count(6) = 2; section(1, 8) = 1; section(3, 8) = 4; section(2, 8) = 0");
        new Script("order").told("order 3 1 0 2", 1).ordered(3, 1, 0, 2)
                .told("ahead 3 0;order 0 1 2 3", 2).ordered(3, 1, 0, 2)
                .told("order 1 2 3 0;ahead 2 0;ahead 0 2", 3).ordered(1, 2, 3, 0)
                .run("count(6) = 2; section(0, 8) = 12")
                .told("sections 4;order 0 1 2 3;ahead 2 0", 3).ordered(0, 1, 2, 3).run("count(6) = 0");
        new Script("an order that the precedences forbid, then one that they allow")
                .told("ahead 0 3;order 3 2 1 0;order 2 0 3 1", 3).ordered(2, 0, 3, 1);
    }

    private static void tellingAndHistory() {
        new Script("tell and undo").run("pages(0, 2) = 1; pages(0, 3) = 2; count(9) = 2").faulty("pages 0 0", 8)
                .run("count(9) = 2; undo() = 1; section(0, 1) = 2").told("pages 0 7", 1)
                .run("count(9) = 0; undo() = -4; section(0, 1) = 7; pages(0, 8) = 7; undo() = 0; section(0, 1) = 7");
        new Script("the text is no part of the manual").type("pages 0 5").run("keep(0) = 0; pages(0, 2) = 1;"
                + "undo() = 0; count(10) = 9; back(0) = 0; count(10) = 9; tell() = 1; section(0, 1) = 5");
    }
}
