/** Promise 3: how many parts the text has, or minus the line of its fault. */
public final class Promise03ReadTest {
    private static final Due DUE = new Due();

    public static void main(String[] args) {
        emptyThen();
        howManyParts();
        minusTheFault();
        nothingOfAFault();
        DUE.end();
    }

    private static void emptyThen() {
        DUE.sentence("The text is READ, and empty then");
        PartText x = new PartText();
        DUE.is("read", 1, Due.typeAndRead(x, "part p{}"));
        DUE.is("the text is empty", -1, x.at(0));
        DUE.is("read of no text", 0, x.read());
        DUE.is("that is in hand now", -1, x.part(1, 0));
        DUE.is("a fault", -1, Due.typeAndRead(x, "part p{"));
        DUE.is("the text is empty after a fault", -1, x.at(0));
        DUE.is("nothing of it is left", 1, Due.typeAndRead(x, "part p{}"));
        x.print();
        DUE.is("what was written is read", 1, x.read());
        DUE.is("the text is empty after that", -1, x.at(0));
        Due.type(x, "part q");
        Due.type(x, "{}");
        DUE.is("what is typed by many calls", 1, x.read());

        PartText full = new PartText();
        Due.type(full, "x".repeat(2000));
        DUE.is("a full text", -1, full.read());
        DUE.is("is empty then", -1, full.at(0));
        DUE.is("and its end", -1, full.at(1999));
    }

    private static void howManyParts() {
        DUE.sentence("how many PARTS it has");
        DUE.reads(0, "");
        DUE.reads(0, " \t\r\n ");
        DUE.reads(0, "unit a = 1 / 1 k ; type t = 1 to 2 a ; interface f { data d : t ; }");
        DUE.reads(1, "part p{}");
        DUE.reads(1, "whole w{}");
        DUE.reads(2, "part p{}whole w{}");
        DUE.reads(3, "part p { } whole w { part a : p ; part b : w ; } part p { }");
        DUE.reads(1, "whole w{part a:p;part b:p;part c:p;}");
        for (int parts = 0; parts <= 60; parts++) {
            DUE.reads(parts, "part p{}".repeat(parts));
        }
    }

    private static void minusTheFault() {
        DUE.sentence("or minus the FAULT (what is IN HAND stays).");
        DUE.reads(-1, "?");
        DUE.reads(-1, "part p{}part q{");
        DUE.reads(-3, "part p{}\npart q{}\npart");
        DUE.reads(-2000, "\n".repeat(1999) + "?");
        DUE.reads(-1997, "part" + "\n".repeat(1996));

        PartText x = new PartText();
        DUE.is("a fault first", -1, Due.typeAndRead(x, "type t = -"));
        DUE.is("nothing is in hand", -3, x.check());
        DUE.is("nothing to write", -3, x.print());
        DUE.is("no edition", -1, x.compare(1));
        DUE.is("a text", 1, Due.typeAndRead(x, "type t=5 to 7 a;part p{run r every 9;}"));
        DUE.is("a fault", -1, Due.typeAndRead(x, "part q{} part r{} x"));
        DUE.is("no more parts", -1, x.part(2, 0));
        DUE.is("its names", 3, x.part(1, 0));
        DUE.is("its runs", 9, x.runnable(1, 1, 1));
        DUE.is("its rules", 102, x.check());
        DUE.is("its edition", 0, x.compare(1));
        DUE.is("no other edition", -1, x.compare(2));
        x.print();
        DUE.is("it is written", "type t = 5 to 7 a ;\npart p {\nrun r every 9 ;\n}\n", Due.text(x));
    }

    /** What a fault has left half done must not show in the next text. */
    private static void nothingOfAFault() {
        String[] faults = {"type t = -", "type t=1 to -", "part p{", "part p{run a every", "part p{run a" + " reads b.c".repeat(8)
            + " reads", "whole w{part", "interface f{data d:", "unit a=1/", "unit abcdefghijklm", "\n\n\n?"};
        String text = "type t=5 to 7 a;unit a=1/1 k;part p{run r" + " reads b.c".repeat(8) + ";}";
        for (String fault : faults) {
            PartText x = new PartText();
            Due.typeAndRead(x, fault);
            DUE.is("after <" + fault + ">", 1, Due.typeAndRead(x, text));
            DUE.is("its names after <" + fault + ">", 4, x.part(1, 0));
            DUE.is("its rows after <" + fault + ">", 402, x.check());
            DUE.is("its edition after <" + fault + ">", 0, x.compare(1));
            Due.typeAndRead(x, fault);
            DUE.is("lines after <" + fault + ">", -1, Due.typeAndRead(x, "?"));
            x.print();
            DUE.is("it is written", "type t = 5 to 7 a ;\nunit a = 1 / 1 k ;\npart p {\nrun r" + " reads b . c".repeat(8)
                + " ;\n}\n", Due.text(x));
        }
    }
}
