/** Promise 10: what is in hand is written as the text, in one form. */
public final class Promise10PrintTest {
    private static final Due DUE = new Due();

    public static void main(String[] args) {
        DUE.is("nothing is in hand", -3, new PartText().print());
        PartText typed = new PartText();
        Due.type(typed, "part p");
        DUE.is("nothing is in hand", -3, typed.print());
        DUE.is("the text stays", "part p", Due.text(typed));

        prints("", "");
        prints("unit a=1/1 k;", "unit a = 1 / 1 k ;\n");
        prints("unit\r\n\ta1  =\n0010/009999 k ;\n\n", "unit a1 = 10 / 9999 k ;\n");
        prints("type t=-5 to 007 a;", "type t = - 5 to 7 a ;\n");
        prints("type t=-0 to -000 a;", "type t = 0 to 0 a ;\n");
        prints("type t=-012 to 000000 a;", "type t = - 12 to 0 a ;\n");
        prints("type t=-999999 to 100000 a;", "type t = - 999999 to 100000 a ;\n");
        prints("type t=101010 to 100 a;", "type t = 101010 to 100 a ;\n");
        prints("interface f{data d:t;data e:t;}", "interface f {\ndata d : t ;\ndata e : t ;\n}\n");
        prints("part p{}whole w{}", "part p {\n}\nwhole w {\n}\n");
        prints("part p{provides a:f;requires b:f;keeps c:t;run x;run y every 030 reads a.b writes c.d;run z on b.d;}",
            "part p {\nprovides a : f ;\nrequires b : f ;\nkeeps c : t ;\nrun x ;\n"
            + "run y every 30 reads a . b writes c . d ;\nrun z on b . d ;\n}\n");
        prints("whole w{part a:p;connect a.b to c.d;}", "whole w {\npart a : p ;\nconnect a . b to c . d ;\n}\n");
        prints("unit abcdefghijkl=1/1 z0123456789z;unit z=1/1 a9;",
            "unit abcdefghijkl = 1 / 1 z0123456789z ;\nunit z = 1 / 1 a9 ;\n");
        inPlace();
        tooLong();
        DUE.end();
    }

    /** Prints what was read from the text, and what was read from that again. */
    private static void prints(String text, String want) {
        PartText x = Due.reading(text);
        for (int time = 1; time <= 2; time++) {
            DUE.is("print of <" + text + ">, time " + time, want.length(), x.print());
            DUE.is("text of <" + text + ">, time " + time, want, Due.text(x));
            DUE.is("check of <" + text + ">", Due.reading(text).check(), x.check());
            x.read();
            DUE.is("the rows are the same", 0, x.compare(1));
        }
    }

    private static void inPlace() {
        PartText x = Due.reading("part p{}");
        Due.type(x, "whole something that was typed");
        DUE.is("print()", 11, x.print());
        DUE.is("in place of that there was", "part p {\n}\n", Due.text(x));
        DUE.is("print() again", 11, x.print());
        DUE.is("the same", "part p {\n}\n", Due.text(x));
    }

    private static void tooLong() {
        // A row of these is written with 19 octets, 104 of them with 1976.
        String rows = "unit a=1/1 k;".repeat(104);
        PartText most = Due.reading(rows + "unit abcdef=1/1 k;");
        DUE.is("2000 octets", 2000, most.print());
        DUE.is("the last one", 10, most.at(1999));
        DUE.is("it is read again", 0, most.read());
        DUE.is("as it was", 0, most.compare(1));

        PartText over = Due.reading(rows + "unit abcdefg=1/1 k;");
        Due.type(over, "part p{}");
        DUE.is("2001 octets", -4, over.print());
        DUE.is("the text is empty then", -1, over.at(0));
        DUE.is("it stays in hand", 201, over.check());
        DUE.is("2001 octets again", -4, over.print());
        DUE.is("a text typed after that", 1, Due.typeAndRead(over, "part p{}"));
        DUE.is("and written", 11, over.print());
    }
}
