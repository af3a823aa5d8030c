/** Promise 6: what a part runs. */
public final class Promise06RunnableTest {
    private static final String TEXT = "part o { run r every 9 ; }\n"
        + "part p { keeps z : t ; run a ; run b every 012 reads x.m writes y.m reads x.n ; requires x : g ;\n"
        + " run c on y.nix writes y.m ; provides y : f ; run d on z.m ; run e on x.m ; run a writes q.q ; }\n"
        + "whole w { part i : p ; }";

    public static void main(String[] args) {
        Due due = new Due();
        PartText x = Due.reading(TEXT);
        // o r p z t a b x m y n g c nix f d e q w i
        int[][] want = {{6, 0, 0, 0, 0}, {7, 12, 0, 2, 1}, {13, 0, 2, 0, 1}, {16, 0, 0, 0, 0},
            {17, 0, 1, 0, 0}, {6, 0, 0, 0, 1}};
        for (int i = 0; i < want.length; i++) {
            for (int what = 0; what < want[i].length; what++) {
                due.is("runnable(2, " + (i + 1) + ", " + what + ")", want[i][what], x.runnable(2, i + 1, what));
            }
        }
        due.is("runnable(1, 1, 1)", 9, x.runnable(1, 1, 1));
        due.is("runnable(1, 2, 0)", -1, x.runnable(1, 2, 0));
        due.is("runnable(2, 7, 0)", -1, x.runnable(2, 7, 0));
        due.is("runnable(2, 0, 0)", -1, x.runnable(2, 0, 0));
        due.is("runnable(3, 1, 0)", -1, x.runnable(3, 1, 0));
        due.is("runnable(4, 1, 0)", -1, x.runnable(4, 1, 0));
        due.is("runnable(4, 1, 5), the number first", -1, x.runnable(4, 1, 5));
        due.is("runnable(2, 1, 5)", -2, x.runnable(2, 1, 5));
        due.is("runnable(2, 1, -1)", -2, x.runnable(2, 1, -1));

        PartText full = Due.reading("part p { run a on b.c" + " reads b.c".repeat(8) + " ; }");
        due.is("eight reads", 8, full.runnable(1, 1, 3));
        due.is("no write", 0, full.runnable(1, 1, 4));
        due.is("on what means nothing", 0, full.runnable(1, 1, 2));
        due.end();
    }
}
