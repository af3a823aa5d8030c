/** Promise 7: the connectors of all wholes. */
public final class Promise07ConnectorTest {
    private static final String TEXT = "whole v { connect a.x to b.y ; part b : p ; part a : q ; }\n"
        + "part p { keeps y : t ; provides z : f ; requires y : f ; }\n"
        + "whole w { part a : p ; connect a.y to a.z ; part c : w ; part a : q ; part d : nix ;\n"
        + " connect nix.y to c.x ; connect d.y to a.nix ; }\n"
        + "part q { requires x : f ; }";

    public static void main(String[] args) {
        Due due = new Due();
        PartText x = Due.reading(TEXT);
        int[][] want = {{1, 2, 1, 1, 2}, {3, 1, 2, 1, 1}, {3, 0, 0, 2, 0}, {3, 4, 0, 1, 0}};
        for (int i = 0; i < want.length; i++) {
            for (int what = 0; what < want[i].length; what++) {
                due.is("connector(" + (i + 1) + ", " + what + ")", want[i][what], x.connector(i + 1, what));
            }
        }
        due.is("connector(0, 0)", -1, x.connector(0, 0));
        due.is("connector(5, 0)", -1, x.connector(5, 0));
        due.is("connector(-1, 0)", -1, x.connector(-1, 0));
        due.is("connector(5, 5), the number first", -1, x.connector(5, 5));
        due.is("connector(1, 5)", -2, x.connector(1, 5));
        due.is("connector(1, -1)", -2, x.connector(1, -1));
        due.end();
    }
}
