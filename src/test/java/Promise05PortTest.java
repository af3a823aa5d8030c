/** Promise 5: the ports of a part. */
public final class Promise05PortTest {
    private static final String TEXT = "part p { keeps z : t ; requires x : g ; provides y : f ; run r ;"
        + " provides x : h ; requires u : p ; }\n"
        + "interface f { } unit h = 1 / 1 k ; interface g { } interface f { }\n"
        + "whole w { part i : p ; } part q { provides y : g ; }";

    public static void main(String[] args) {
        Due due = new Due();
        PartText x = Due.reading(TEXT);
        // p z t x g y f r h u k w i q
        int[][] want = {{4, 0, 2}, {6, 1, 1}, {4, 1, 0}, {10, 0, 0}};
        for (int i = 0; i < want.length; i++) {
            for (int what = 0; what < want[i].length; what++) {
                due.is("port(1, " + (i + 1) + ", " + what + ")", want[i][what], x.port(1, i + 1, what));
            }
        }
        due.is("port(3, 1, 0)", 6, x.port(3, 1, 0));
        due.is("port(3, 1, 1)", 1, x.port(3, 1, 1));
        due.is("port(3, 1, 2)", 2, x.port(3, 1, 2));
        due.is("port(1, 5, 0)", -1, x.port(1, 5, 0));
        due.is("port(1, 0, 0)", -1, x.port(1, 0, 0));
        due.is("port(0, 1, 0)", -1, x.port(0, 1, 0));
        due.is("port(4, 1, 0)", -1, x.port(4, 1, 0));
        due.is("a whole has none", -1, x.port(2, 1, 0));
        due.is("port(2, 1, 3), the number first", -1, x.port(2, 1, 3));
        due.is("port(1, 1, 3)", -2, x.port(1, 1, 3));
        due.is("port(1, 1, -1)", -2, x.port(1, 1, -1));
        due.end();
    }
}
