/** Promise 4: what one of the parts and wholes is and has. */
public final class Promise04PartTest {
    private static final String TEXT = "unit a = 1 / 1 k ; interface f { data d : a ; }\n"
        + "part p { provides x : f ; run r ; requires y : f ; keeps z : t ; run s every 3 ; requires x : f ; }\n"
        + "whole w { part i : p ; connect i.x to j.y ; part j : p ; }\n"
        + "part f { keeps a : t ; keeps b : t ; }";
    private static final Due DUE = new Due();

    public static void main(String[] args) {
        answers();
        refused();
        DUE.end();
    }

    private static void answers() {
        DUE.sentence("Of one of the PARTS: what = 0 its NAME's number, 1 1 for a whole, otherwise 0, 2 how many PORTS,"
            + " 3 how many it runs, 4 how many it keeps, 5 how many INNERS.");
        PartText x = Due.reading(TEXT);
        // a k f d p x r y z t s w i j b
        int[][] want = {{5, 0, 3, 2, 1, 0}, {12, 1, 0, 0, 0, 2}, {3, 0, 0, 0, 2, 0}};
        for (int i = 0; i < want.length; i++) {
            for (int what = 0; what < want[i].length; what++) {
                DUE.is("part(" + (i + 1) + ", " + what + ")", want[i][what], x.part(i + 1, what));
            }
        }
        String[] members = {"provides a:b;", "requires a:b;", "run a;", "keeps a:b;"};
        int[] counted = {2, 2, 3, 4};
        for (int i = 0; i < members.length; i++) {
            for (int count : new int[] {0, 1, 118}) {
                PartText full = Due.reading("part p{" + members[i].repeat(count) + "}");
                for (int what = 2; what <= 5; what++) {
                    DUE.is(count + " times " + members[i] + " part(1, " + what + ")", what == counted[i] ? count : 0,
                        full.part(1, what));
                }
            }
        }
        PartText full = Due.reading("whole w{" + "part a:b;".repeat(118) + "}");
        DUE.is("118 INNERS", 118, full.part(1, 5));
    }

    private static void refused() {
        DUE.sentence("-1 there is none, -2 no such what.");
        PartText x = Due.reading(TEXT);
        for (int i : new int[] {0, 4, 5, -1, Integer.MIN_VALUE, Integer.MAX_VALUE}) {
            for (int what = -1; what <= 6; what++) {
                DUE.is("part(" + i + ", " + what + ")", -1, x.part(i, what));
            }
        }
        for (int what : new int[] {-1, 6, 7, -2, Integer.MIN_VALUE, Integer.MAX_VALUE}) {
            for (int i = 1; i <= 3; i++) {
                DUE.is("part(" + i + ", " + what + ")", -2, x.part(i, what));
            }
        }
        DUE.is("no parts", -1, Due.reading("unit a=1/1 k;interface f{}").part(1, 0));
    }
}
