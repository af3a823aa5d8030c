/** Promise 5: the ports of a part. */
public final class Promise05PortTest {
    private static final String TEXT = "part p { keeps z : t ; requires x : g ; provides y : f ; run r ;"
        + " provides x : h ; requires u : p ; }\n"
        + "interface f { } unit h = 1 / 1 k ; interface g { } interface f { }\n"
        + "whole w { part i : p ; } part q { provides y : g ; }";
    private static final Due DUE = new Due();

    public static void main(String[] args) {
        nameAndDirection();
        interfaces();
        refused();
        DUE.end();
    }

    private static void nameAndDirection() {
        DUE.sentence("Of PORT i of one of the PARTS: what = 0 its NAME's number, 1 1 when it is provided, otherwise 0,");
        PartText x = Due.reading(TEXT);
        // p z t x g y f r h u k w i q
        int[][] want = {{4, 0}, {6, 1}, {4, 1}, {10, 0}};
        for (int i = 0; i < want.length; i++) {
            DUE.is("port(1, " + (i + 1) + ", 0)", want[i][0], x.port(1, i + 1, 0));
            DUE.is("port(1, " + (i + 1) + ", 1)", want[i][1], x.port(1, i + 1, 1));
        }
        DUE.is("port(3, 1, 0)", 6, x.port(3, 1, 0));
        DUE.is("port(3, 1, 1)", 1, x.port(3, 1, 1));
        PartText full = Due.reading("part p{" + "requires a:b;".repeat(117) + "provides c:b;}");
        DUE.is("PORT 117", 0, full.port(1, 117, 1));
        DUE.is("PORT 118", 1, full.port(1, 118, 1));
        DUE.is("its name", 4, full.port(1, 118, 0));
    }

    private static void interfaces() {
        DUE.sentence("2 which of the interfaces (from 1 on; 0 when that means nothing).");
        PartText x = Due.reading(TEXT);
        int[] want = {2, 1, 0, 0};
        for (int i = 0; i < want.length; i++) {
            DUE.is("port(1, " + (i + 1) + ", 2)", want[i], x.port(1, i + 1, 2));
        }
        DUE.is("port(3, 1, 2)", 2, x.port(3, 1, 2));
        DUE.is("no interface", 0, Due.reading("part p{provides o:f;}").port(1, 1, 2));
        DUE.is("a part is none", 0, Due.reading("part f{provides o:f;}").port(1, 1, 2));
        PartText last = Due.reading("interface f{}".repeat(57) + "interface g{}part p{provides o:g;requires r:f;}");
        DUE.is("the last of 58", 58, last.port(1, 1, 2));
        DUE.is("the first of 58", 1, last.port(1, 2, 2));
    }

    private static void refused() {
        DUE.sentence("-1, -2 likewise.");
        PartText x = Due.reading(TEXT);
        for (int what = -1; what <= 3; what++) {
            for (int i : new int[] {0, 5, -1, Integer.MIN_VALUE, Integer.MAX_VALUE}) {
                DUE.is("port(1, " + i + ", " + what + ")", -1, x.port(1, i, what));
                DUE.is("port(" + i + ", 1, " + what + ")", -1, x.port(i, 1, what));
            }
            DUE.is("port(3, 2, " + what + ")", -1, x.port(3, 2, what));
            DUE.is("port(4, 1, " + what + ")", -1, x.port(4, 1, what));
            DUE.is("a whole has none, " + what, -1, x.port(2, 1, what));
        }
        for (int what : new int[] {-1, 3, 4, -2, Integer.MIN_VALUE, Integer.MAX_VALUE}) {
            DUE.is("port(1, 1, " + what + ")", -2, x.port(1, 1, what));
            DUE.is("port(3, 1, " + what + ")", -2, x.port(3, 1, what));
        }
    }
}
