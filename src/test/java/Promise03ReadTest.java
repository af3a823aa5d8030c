/** Promise 3: how many parts the text has, or minus the line of its fault. */
public final class Promise03ReadTest {
    private static final Due DUE = new Due();

    public static void main(String[] args) {
        wholeTexts();
        tokens();
        statements();
        members();
        lines();
        rowLimit();
        state();
        DUE.end();
    }

    private static void wholeTexts() {
        DUE.reads(0, "");
        DUE.reads(0, " \t\r\n ");
        DUE.reads(0, "unit a = 1 / 1 k ; type t = 1 to 2 a ; interface f { data d : t ; }");
        DUE.reads(1, "part p{}");
        DUE.reads(1, "whole w{}");
        DUE.reads(3, "part p { } whole w { part a : p ; part b : w ; } part p { }");
        DUE.reads(0, "interface f{data a:b;data c:d;}interface g{}");
    }

    private static void tokens() {
        DUE.reads(0, "unit abcdefghijkl=1/1 k;");
        DUE.reads(-1, "unit abcdefghijklm=1/1 k;");
        DUE.reads(0, "unit a1b2c3=1/1 k9;");
        DUE.reads(-1, "unit 1a=1/1 k;");
        DUE.reads(-1, "unit A=1/1 k;");
        DUE.reads(-1, "unit a_b=1/1 k;");
        DUE.reads(-1, "unit a\u00e4=1/1 k;");
        DUE.reads(0, "type t=999999 to 1 a;");
        DUE.reads(-1, "type t=999999to 1 a;");
        DUE.reads(-1, "type t=0000001 to 1 a;");
        DUE.reads(0, "type t=000001 to 1 a;");
        DUE.reads(-1, "unit a=1/1k;");
        DUE.reads(0, "type t=-5 to-3 a;");
        DUE.reads(-1, "type t=--5 to 3 a;");
        DUE.reads(-1, "type t=- to 3 a;");
        DUE.reads(-1, "type t=5- to 3 a;");
        DUE.reads(-1, "type t=1 to 2 a;+");
        DUE.reads(0, "unit unita=1/1 parts;");
        String[] words = ("unit type interface data part provides requires keeps run every on reads writes"
            + " whole connect to").split(" ");
        for (String word : words) {
            DUE.reads(-1, "unit " + word + "=1/1 k;");
            DUE.reads(-1, "unit a=1/1 " + word + ";");
            DUE.reads(0, "unit " + word + "s=1/1 k;");
        }
    }

    private static void statements() {
        DUE.reads(0, "unit a=9999/9999 k;");
        DUE.reads(0, "unit a=009999/000001 k;");
        DUE.reads(-1, "unit a=10000/1 k;");
        DUE.reads(-1, "unit a=1/10000 k;");
        DUE.reads(-1, "unit a=0/1 k;");
        DUE.reads(-1, "unit a=1/0 k;");
        DUE.reads(-1, "unit a=-1/1 k;");
        DUE.reads(-1, "unit a=1/1;");
        DUE.reads(-1, "unit a 1/1 k;");
        DUE.reads(-1, "unit a=1/1 k");
        DUE.reads(-1, "type t=1 2 a;");
        DUE.reads(-1, "type t=1 to a;");
        DUE.reads(-1, "type t=1 to 2;");
        DUE.reads(0, "type t=0 to 0 a;");
        DUE.reads(-1, "interface f{");
        DUE.reads(-1, "interface{}");
        DUE.reads(-1, "part p{};");
        DUE.reads(-1, "}");
        DUE.reads(-1, ";");
        DUE.reads(-1, "data d:t;");
        DUE.reads(-1, "connect a.b to c.d;");
        DUE.reads(-1, "a");
        DUE.reads(-1, "1");
    }

    private static void members() {
        DUE.reads(-1, "interface f{data d;}");
        DUE.reads(-1, "interface f{data d:t}");
        DUE.reads(-1, "interface f{keeps d:t;}");
        DUE.reads(-1, "interface f{part d:t;}");
        DUE.reads(1, "part p{provides a:f;requires b:f;keeps c:t;run d;}");
        DUE.reads(-1, "part p{data a:f;}");
        DUE.reads(-1, "part p{part a:f;}");
        DUE.reads(-1, "part p{connect a.b to c.d;}");
        DUE.reads(1, "part p{run a every 1;run b every 999999 reads c.d;run e on f.g writes h.i reads j.k;}");
        DUE.reads(1, "part p{run a reads c.d;}");
        DUE.reads(-1, "part p{run a every 0;}");
        DUE.reads(-1, "part p{run a every -1;}");
        DUE.reads(-1, "part p{run a every;}");
        DUE.reads(-1, "part p{run a on b;}");
        DUE.reads(-1, "part p{run a on b.;}");
        DUE.reads(-1, "part p{run a every 1 on b.c;}");
        DUE.reads(-1, "part p{run a reads b.c every 1;}");
        DUE.reads(-1, "part p{run a reads b.c on b.c;}");
        DUE.reads(-1, "part p{run;}");
        DUE.reads(-1, "part p{run a reads b;}");
        DUE.reads(1, "part p{run a on x.y" + " reads b.c writes b.c".repeat(4) + ";}");
        DUE.reads(-1, "part p{run a on x.y" + " reads b.c writes b.c".repeat(4) + " writes b.c;}");
        DUE.reads(1, "part p{run a" + " reads b.c".repeat(8) + ";run a" + " writes b.c".repeat(8) + ";}");
        DUE.reads(1, "whole w{part a:b;connect a.b to c.d;}");
        DUE.reads(-1, "whole w{connect a.b to c;}");
        DUE.reads(-1, "whole w{connect a to c.d;}");
        DUE.reads(-1, "whole w{connect a.b c.d;}");
        DUE.reads(-1, "whole w{run a;}");
        DUE.reads(-1, "whole w{part a{}}");
        DUE.reads(-1, "part p{unit a=1/1 k;}");
    }

    private static void lines() {
        DUE.reads(-1, "?\n\n");
        DUE.reads(-3, "\n\n?");
        DUE.reads(-2, "\r\r\n?");
        DUE.reads(-1, "\r\r?");
        DUE.reads(-2, "unit a=1/1 k\n?;");
        DUE.reads(-2, "unit a=1/1 k\n");
        DUE.reads(-4, "part p {\n\n\n");
        DUE.reads(-1, "part p {");
        DUE.reads(-3, "unit a\n=1/1\n=k;");
        DUE.reads(-3, "unit a = 1 / 1 k ;\n\nunit b = 0\n/ 1 k ;");
        DUE.reads(-2, "type t = -\nx to 2 a;");
        DUE.reads(-2, "type t = -\n");
        DUE.reads(-1, "; \n?");
        DUE.reads(-3, "part p { run a\nreads b.c reads b.c reads b.c reads b.c reads b.c reads b.c reads b.c"
            + " reads b.c\nreads b.c ; }");
        DUE.reads(-2, "unit\nabcdefghijklm\n=");
        DUE.reads(-2, "type t =\n1234567\nto");
    }

    private static void rowLimit() {
        String unit = "unit a=1/1 k;";
        DUE.reads(0, unit.repeat(120));
        DUE.reads(-1, unit.repeat(121));
        DUE.reads(-2, unit.repeat(120) + "\nunit\n");
        DUE.reads(-3, unit.repeat(120) + "\n\n?");
        DUE.reads(0, unit.repeat(120) + "\n\n");
        DUE.reads(60, "part p{}".repeat(60));
        DUE.reads(-2, "part p{}".repeat(60) + "\nwhole w{}");
        DUE.reads(-2, unit.repeat(119) + "part p{\n}");
        DUE.reads(1, unit.repeat(118) + "part p{\n}");
        DUE.reads(-2, unit.repeat(118) + "part p{run a;\n}");
        DUE.reads(-2, unit.repeat(119) + "part p{\nrun a;}");
        DUE.reads(-2, unit.repeat(119) + "part p{\n");
    }

    private static void state() {
        PartText x = new PartText();
        DUE.is("a fault first", -1, Due.typeAndRead(x, "type t = -"));
        DUE.is("nothing is in hand", -3, x.check());
        DUE.is("the text is empty after a fault", -1, x.at(0));
        DUE.is("no edition", -1, x.compare(1));
        DUE.is("a text after a fault", 1, Due.typeAndRead(x, "type t = 5 to 7 a; part p { }"));
        DUE.is("the text is empty", -1, x.at(0));
        DUE.is("the minus before the fault is gone", 102, x.check());
        x.print();
        DUE.is("it is 5", "type t = 5 to 7 a ;\npart p {\n}\n", Due.text(x));
        x.read();
        DUE.is("another fault", -1, Due.typeAndRead(x, "part q { } part r { } x"));
        DUE.is("what is in hand stays", -1, x.part(2, 0));
        DUE.is("and its rules", 102, x.check());
        DUE.is("and the editions", 0, x.compare(2));
        DUE.is("a fault is no edition", -1, x.compare(3));
        DUE.is("an empty text", 0, x.read());
        DUE.is("is an edition", 0, x.compare(3));
        DUE.is("without rows", 0, x.check());
    }
}
