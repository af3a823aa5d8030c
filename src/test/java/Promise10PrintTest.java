/** Promise 10: what is in hand is written as the text, in one form. */
public final class Promise10PrintTest {
    private static final Due DUE = new Due();

    public static void main(String[] args) {
        inPlace();
        tokens();
        numbers();
        howMany();
        nothingInHand();
        tooLong();
        DUE.end();
    }

    private static void inPlace() {
        DUE.sentence("What is IN HAND is written as the text, in place of that there was");
        PartText x = Due.reading("part p{}");
        Due.type(x, "whole something that was typed");
        DUE.is("print()", 11, x.print());
        DUE.is("in place of that there was", "part p {\n}\n", Due.text(x));
        DUE.is("print() again", 11, x.print());
        DUE.is("the same", "part p {\n}\n", Due.text(x));
        x.sign('?');
        DUE.is("a fault", -3, x.read());
        DUE.is("what is in hand is written after a fault", 11, x.print());
        DUE.is("as it was", "part p {\n}\n", Due.text(x));

        PartText full = Due.reading("part p{}");
        Due.type(full, "x".repeat(1900));
        DUE.is("in place of a long one", 11, full.print());
        DUE.is("nothing behind it", -1, full.at(11));

        PartText empty = new PartText();
        empty.read();
        Due.type(empty, "part");
        DUE.is("no rows", 0, empty.print());
        DUE.is("the text is empty", -1, empty.at(0));
    }

    /** Prints what was read from the text, and what was read from that again. */
    private static void prints(String want, String text) {
        DUE.prints(want, text);
        DUE.prints(want, want);
        DUE.compares(0, want, text);
        DUE.compares(0, text, want);
    }

    private static void tokens() {
        DUE.sentence("each ROW by its tokens with a space between");
        prints("unit a = 1 / 1 k ;\n", "unit a=1/1 k;");
        prints("unit a1 = 10 / 9999 k ;\n", "unit\r\n\ta1  =\n10/9999 k ;\n\n");
        prints("type t = 5 to 7 a ;\n", "type t=5 to 7 a;");
        prints("interface f {\ndata d : t ;\ndata e : t ;\n}\n", "interface f{data d:t;data e:t;}");
        prints("part p {\n}\nwhole w {\n}\n", "part p{}whole w{}");
        prints("part p {\nprovides a : f ;\nrequires b : f ;\nkeeps c : t ;\nrun x ;\n"
            + "run y every 30 reads a . b writes c . d ;\nrun z on b . d ;\n}\n",
            "part p{provides a:f;requires b:f;keeps c:t;run x;run y every 30 reads a.b writes c.d;run z on b.d;}");
        prints("part p {\nrun a" + " reads b . c".repeat(8) + " ;\n}\n", "part p{run a" + " reads b.c".repeat(8) + ";}");
        prints("whole w {\npart a : p ;\nconnect a . b to c . d ;\n}\n", "whole w{part a:p;connect a.b to c.d;}");
        prints("unit abcdefghijkl = 1 / 1 z0123456789z ;\nunit z = 1 / 1 a9 ;\n",
            "unit abcdefghijkl=1/1 z0123456789z;unit z=1/1 a9;");
        prints("unit a0 = 1 / 1 a00 ;\nunit a = 1 / 1 zzzzzzzzzzzz ;\n", "unit a0=1/1 a00;unit a=1/1 zzzzzzzzzzzz;");
    }

    private static void numbers() {
        DUE.sentence("(NUMBERS without nulls before, 0 without -), and a line feed");
        int[] numbers = {1, 9, 10, 11, 99, 100, 101, 110, 999, 1000, 1001, 9999};
        for (int number : numbers) {
            prints("unit a = " + number + " / " + number + " k ;\n", String.format("unit a=%06d/%d k;", number, number));
            prints("part p {\nrun a every " + number + " ;\n}\n", String.format("part p{run a every %05d;}", number));
            prints("type t = - " + number + " to " + number + " a ;\n", String.format("type t=-%06d to %05d a;", number, number));
        }
        prints("type t = - 999999 to 100000 a ;\n", "type t=-999999 to 100000 a;");
        prints("type t = 10000 to - 99999 a ;\n", "type t=010000 to -099999 a;");
        prints("part p {\nrun a every 999999 ;\n}\n", "part p{run a every 999999;}");
        prints("type t = 0 to 0 a ;\n", "type t=0 to 000000 a;");
        prints("type t = 0 to 0 a ;\n", "type t=-0 to -000000 a;");
        prints("type t = 0 to - 1 a ;\n", "type t=-00 to -01 a;");
        prints("type t = - 1 to 0 a ;\n", "type t=-1 to -0 a;");
    }

    private static void howMany() {
        DUE.sentence("how many octets.");
        for (int rows = 0; rows <= 60; rows++) {
            PartText x = Due.reading("part p{}".repeat(rows));
            DUE.is(rows + " parts", 11 * rows, x.print());
            DUE.is("the last one", rows == 0 ? -1 : 10, x.at(11 * rows - 1));
            DUE.is("behind it", -1, x.at(11 * rows));
        }
        // A row of these is written with 19 octets, 104 of them with 1976.
        PartText most = Due.reading("unit a=1/1 k;".repeat(104) + "unit abcdef=1/1 k;");
        DUE.is("2000 octets", 2000, most.print());
        DUE.is("the last one", 10, most.at(1999));
        DUE.is("it is read again", 0, most.read());
        DUE.is("as it was", 0, most.compare(1));
    }

    private static void nothingInHand() {
        DUE.sentence("-3 nothing is IN HAND,");
        PartText x = new PartText();
        DUE.is("a new object", -3, x.print());
        DUE.is("no text", -1, x.at(0));
        Due.type(x, "part p");
        DUE.is("a text that is only typed", -3, x.print());
        DUE.is("the text stays", "part p", Due.text(x));
        x.read();
        DUE.is("a fault", -3, x.print());
    }

    private static void tooLong() {
        DUE.sentence("-4 more than 2000 (the text is empty then).");
        String rows = "unit a=1/1 k;".repeat(104);
        for (int length = 1; length <= 12; length++) {
            PartText x = Due.reading(rows + "unit " + "b".repeat(length) + "=1/1 k;");
            Due.type(x, "part p{}");
            DUE.is("a name of " + length, length <= 6 ? 1994 + length : -4, x.print());
            DUE.is("the text with a name of " + length, length <= 6 ? 'u' : -1, x.at(0));
        }
        PartText over = Due.reading(rows + "unit abcdefg=1/1 k;");
        DUE.is("2001 octets", -4, over.print());
        DUE.is("it stays in hand", 201, over.check());
        DUE.is("its edition stays", 0, over.compare(1));
        DUE.is("2001 octets again", -4, over.print());
        DUE.is("a text typed after that", 1, Due.typeAndRead(over, "part p{}"));
        DUE.is("and written", 11, over.print());

        PartText far = Due.reading("part p{" + "run a reads b.c reads b.c reads b.c;".repeat(50) + "}");
        DUE.is("far more than 2000", -4, far.print());
        DUE.is("the text is empty", -1, far.at(0));
        DUE.is("and its last place", -1, far.at(1999));
        DUE.is("an empty text is read then", 0, far.read());
    }
}
