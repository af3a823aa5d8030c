/** Promise 6: what a part runs. */
public final class Promise06RunnableTest {
    private static final String TEXT = "part o { run r every 9 ; }\n"
        + "part p { keeps z : t ; run a ; run b every 012 reads x.m writes y.m reads x.n ; requires x : g ;\n"
        + " run c on y.nix writes y.m ; provides y : f ; run d on z.m ; run e on x.m ; run a writes q.q ; }\n"
        + "whole w { part i : p ; }";
    private static final Due DUE = new Due();

    public static void main(String[] args) {
        nameAndEvery();
        ports();
        accesses();
        refused();
        DUE.end();
    }

    /** The answers for one what of all that the second of the parts runs. */
    private static void answers(int what, int... want) {
        PartText x = Due.reading(TEXT);
        for (int i = 0; i < want.length; i++) {
            DUE.is("runnable(2, " + (i + 1) + ", " + what + ")", want[i], x.runnable(2, i + 1, what));
        }
    }

    private static void nameAndEvery() {
        DUE.sentence("Of what one of the PARTS runs: what = 0 its NAME's number, 1 every how many, 0 without,");
        // o r p z t a b x m y n g c nix f d e q w i
        answers(0, 6, 7, 13, 16, 17, 6);
        answers(1, 0, 12, 0, 0, 0, 0);
        DUE.is("runnable(1, 1, 0)", 2, Due.reading(TEXT).runnable(1, 1, 0));
        DUE.is("runnable(1, 1, 1)", 9, Due.reading(TEXT).runnable(1, 1, 1));
        DUE.is("every 1", 1, Due.reading("part p{run a every 000001;}").runnable(1, 1, 1));
        DUE.is("every 999999", 999999, Due.reading("part p{run a every 999999;}").runnable(1, 1, 1));
        PartText full = Due.reading("part p{" + "run a;".repeat(117) + "run b every 7;}");
        DUE.is("run 117", 0, full.runnable(1, 117, 1));
        DUE.is("run 118", 7, full.runnable(1, 118, 1));
    }

    private static void ports() {
        DUE.sentence("2 by which PORT (0 without, or when that means nothing),");
        answers(2, 0, 0, 2, 0, 1, 0);
        DUE.is("no such PORT", 0, Due.reading("part p{run a on b.c;}").runnable(1, 1, 2));
        DUE.is("a PORT of another part", 0, Due.reading("part q{requires b:f;}part p{run a on b.c;}").runnable(2, 1, 2));
        DUE.is("a PORT whose interface means nothing", 1, Due.reading("part p{run a on b.c;requires b:f;}").runnable(1, 1, 2));
        DUE.is("a PORT that is only read", 0, Due.reading("part p{requires b:f;run a every 5 reads b.c;}").runnable(1, 1, 2));
        DUE.is("a PORT without a TRIGGER", 0, Due.reading("part p{requires b:f;run a reads b.c;}").runnable(1, 1, 2));
        PartText last = Due.reading("part p{" + "requires a:f;".repeat(116) + "provides b:f;run r on b.c;}");
        DUE.is("the last of 117 PORTS", 117, last.runnable(1, 1, 2));
    }

    private static void accesses() {
        DUE.sentence("3 how many reads, 4 how many writes.");
        answers(3, 0, 2, 0, 0, 0, 0);
        answers(4, 0, 1, 1, 0, 0, 1);
        for (int reads = 0; reads <= 8; reads++) {
            for (int writes = 0; reads + writes <= 8; writes++) {
                PartText x = Due.reading("part p{run a on b.c" + " reads b.c".repeat(reads) + " writes b.c".repeat(writes)
                    + ";}");
                DUE.is(reads + " reads", reads, x.runnable(1, 1, 3));
                DUE.is(writes + " writes", writes, x.runnable(1, 1, 4));
            }
        }
    }

    private static void refused() {
        DUE.sentence("-1, -2 likewise.");
        PartText x = Due.reading(TEXT);
        for (int what = -1; what <= 5; what++) {
            for (int i : new int[] {0, 7, -1, Integer.MIN_VALUE, Integer.MAX_VALUE}) {
                DUE.is("runnable(2, " + i + ", " + what + ")", -1, x.runnable(2, i, what));
                DUE.is("runnable(" + i + ", 1, " + what + ")", -1, x.runnable(i, 1, what));
            }
            DUE.is("runnable(1, 2, " + what + ")", -1, x.runnable(1, 2, what));
            DUE.is("a whole runs none, " + what, -1, x.runnable(3, 1, what));
            DUE.is("runnable(4, 1, " + what + ")", -1, x.runnable(4, 1, what));
        }
        for (int what : new int[] {-1, 5, 6, -2, Integer.MIN_VALUE, Integer.MAX_VALUE}) {
            DUE.is("runnable(2, 1, " + what + ")", -2, x.runnable(2, 1, what));
            DUE.is("runnable(2, 6, " + what + ")", -2, x.runnable(2, 6, what));
        }
    }
}
