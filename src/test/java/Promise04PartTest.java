/** Promise 4: what one of the parts and wholes is and has. */
public final class Promise04PartTest {
    private static final String TEXT = "unit a = 1 / 1 k ; interface f { data d : a ; }\n"
        + "part p { provides x : f ; run r ; requires y : f ; keeps z : t ; run s every 3 ; requires x : f ; }\n"
        + "whole w { part i : p ; connect i.x to j.y ; part j : p ; }\n"
        + "part f { keeps a : t ; keeps b : t ; }";

    public static void main(String[] args) {
        Due due = new Due();
        PartText x = Due.reading(TEXT);
        // a k f d p x r y z t s w i j b
        int[][] want = {{5, 0, 3, 2, 1, 0}, {12, 1, 0, 0, 0, 2}, {3, 0, 0, 0, 2, 0}};
        for (int i = 0; i < want.length; i++) {
            for (int what = 0; what < want[i].length; what++) {
                due.is("part(" + (i + 1) + ", " + what + ")", want[i][what], x.part(i + 1, what));
            }
        }
        due.is("part(0, 0)", -1, x.part(0, 0));
        due.is("part(4, 0)", -1, x.part(4, 0));
        due.is("part(-1, 0)", -1, x.part(-1, 0));
        due.is("part(4, 6), the number first", -1, x.part(4, 6));
        due.is("part(1, 6)", -2, x.part(1, 6));
        due.is("part(1, -1)", -2, x.part(1, -1));
        due.is("part(least, 0)", -1, x.part(Integer.MIN_VALUE, 0));
        due.is("part(1, most)", -2, x.part(1, Integer.MAX_VALUE));
        due.end();
    }
}
