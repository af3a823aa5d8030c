/** Promise 7: the connectors of all wholes. */
public final class Promise07ConnectorTest {
    private static final String TEXT = "whole v { connect a.x to b.y ; part b : p ; part a : q ; }\n"
        + "part p { keeps y : t ; provides z : f ; requires y : f ; }\n"
        + "whole w { part a : p ; connect a.y to a.z ; part c : w ; part a : q ; part d : nix ;\n"
        + " connect nix.y to c.x ; connect d.y to a.nix ; }\n"
        + "part q { requires x : f ; }";
    private static final Due DUE = new Due();

    public static void main(String[] args) {
        answers();
        meansNothing();
        refused();
        DUE.end();
    }

    private static void connects(String text, int i, int... want) {
        PartText x = Due.reading(text);
        for (int what = 0; what < want.length; what++) {
            DUE.is("connector(" + i + ", " + what + ") of <" + text + ">", want[what], x.connector(i, what));
        }
    }

    private static void answers() {
        DUE.sentence("Of a CONNECTOR: what = 0 which of the PARTS it is in, 1 the first INNER, 2 its PORT, 3 the second"
            + " INNER, 4 its PORT");
        connects(TEXT, 1, 1, 2, 1, 1, 2);
        connects(TEXT, 2, 3, 1, 2, 1, 1);
        connects("part p{" + "provides a:f;".repeat(50) + "requires b:f;}whole w{" + "part x:p;".repeat(40)
            + "part y:p;connect y.b to x.a;}", 1, 2, 41, 51, 1, 1);
        PartText full = Due.reading("whole w{" + "connect a.b to c.d;".repeat(50) + "}whole v{connect a.b to c.d;}");
        DUE.is("connector(50, 0)", 1, full.connector(50, 0));
        DUE.is("connector(51, 0)", 2, full.connector(51, 0));
        DUE.is("connector(52, 0)", -1, full.connector(52, 0));
    }

    private static void meansNothing() {
        DUE.sentence("(0 for each that means nothing).");
        connects(TEXT, 3, 3, 0, 0, 2, 0);
        connects(TEXT, 4, 3, 4, 0, 1, 0);
        connects("whole w{connect a.b to c.d;}", 1, 1, 0, 0, 0, 0);
        String ports = "part p{provides o:f;requires r:f;}";
        connects(ports + "whole w{part a:p;connect a.r to nix.r;}", 1, 2, 1, 2, 0, 0);
        connects(ports + "whole w{part a:p;connect nix.o to a.r;}", 1, 2, 0, 0, 1, 2);
        connects(ports + "whole w{part a:p;connect a.nix to a.r;}", 1, 2, 1, 0, 1, 2);
        connects(ports + "whole w{part a:p;part b:nix;connect b.o to a.o;}", 1, 2, 2, 0, 1, 1);
        connects(ports + "whole v{part o:p;}whole w{part a:v;part b:p;connect a.o to b.o;}", 1, 3, 1, 0, 2, 1);
        connects(ports + "whole w{part a:w;part b:p;connect b.o to a.o;}", 1, 2, 2, 1, 1, 0);
    }

    private static void refused() {
        DUE.sentence("-1, -2 likewise.");
        PartText x = Due.reading(TEXT);
        for (int what = -1; what <= 5; what++) {
            for (int i : new int[] {0, 5, 6, -1, Integer.MIN_VALUE, Integer.MAX_VALUE}) {
                DUE.is("connector(" + i + ", " + what + ")", -1, x.connector(i, what));
            }
        }
        for (int what : new int[] {-1, 5, 6, -2, Integer.MIN_VALUE, Integer.MAX_VALUE}) {
            for (int i = 1; i <= 4; i++) {
                DUE.is("connector(" + i + ", " + what + ")", -2, x.connector(i, what));
            }
        }
        DUE.is("no connector", -1, Due.reading("whole w{part a:w;}").connector(1, 0));
    }
}
