/** Promise 12: how many rows of what is in hand another edition has not. */
public final class Promise12CompareTest {
    private static final Due DUE = new Due();

    public static void main(String[] args) {
        rows();
        writtenAlike();
        blocks();
        asMany();
        noEdition();
        DUE.end();
    }

    private static void rows() {
        DUE.sentence("How many ROWS of what is IN HAND another EDITION has not");
        DUE.compares(0, "", "");
        DUE.compares(0, "", "part p{}");
        DUE.compares(2, "part p{}", "");
        DUE.compares(0, "unit a=1/1 k;", "unit b=1/1 k;unit a=1/1 k;");
        DUE.compares(1, "unit b=1/1 k;unit a=1/1 k;", "unit a=1/1 k;");
        DUE.compares(0, "unit b=1/1 a;unit a=1/1 b;", "unit a=1/1 b;unit b=1/1 a;");
        DUE.compares(120, "unit a=1/1 k;".repeat(120), "part p{}");
        DUE.compares(0, "part p{}", "unit a=1/1 k;".repeat(100) + "part p{}");
        PartText x = Due.reading("unit a=1/1 k;unit b=1/1 k;");
        DUE.is("with itself", 0, x.compare(1));
        Due.typeAndRead(x, "unit b=1/1 k;unit c=1/1 k;unit d=1/1 k;");
        DUE.is("with the one before", 2, x.compare(1));
        DUE.is("with itself", 0, x.compare(2));
        Due.type(x, "part p{}");
        DUE.is("what is typed doesn't matter", 2, x.compare(1));
        DUE.is("a fault", -1, Due.typeAndRead(x, "?"));
        DUE.is("nor does a fault", 2, x.compare(1));
    }

    private static void writtenAlike() {
        DUE.sentence("one written alike, in a block that begins alike or in none, as that is");
        DUE.compares(0, "unit a=01/001 k;", "unit  a = 1\n/ 1 k ;");
        DUE.compares(0, "type t=-0 to 007 a;", "type t=0 to 7 a;");
        DUE.compares(0, "part p{run a every 010;}", "part p{run a every 10;}");
        String[] unlike = {"unit a=1/1 k;", "unit b=1/1 k;", "unit a=2/1 k;", "unit a=1/2 k;", "unit a=1/1 j;",
            "unit a1=1/1 k;", "unit a0=1/1 k;", "unit a00=1/1 k;", "unit ab=1/1 k;", "unit ba=1/1 k;",
            "type a=1 to 2 k;", "type a=-1 to 2 k;", "type a=1 to -2 k;", "type a=1 to 2 j;", "type a=1 to 1 k;",
            "type a=0 to 1 k;", "type b=1 to 2 k;"};
        for (String now : unlike) {
            for (String before : unlike) {
                DUE.compares(now.equals(before) ? 0 : 1, now, before);
            }
        }
        String[] members = {"provides a:b;", "requires a:b;", "keeps a:b;", "provides b:a;", "provides a:a;", "run a;",
            "run b;", "run a every 1;", "run a every 2;", "run a on b.c;", "run a on c.b;", "run a reads b.c;",
            "run a writes b.c;", "run a reads b.c reads b.c;", "run a reads b.c writes b.c;",
            "run a writes b.c reads b.c;", "run a every 1 reads b.c;"};
        for (String now : members) {
            for (String before : members) {
                DUE.compares(now.equals(before) ? 0 : 1, "part p{" + now + "}", "part p{" + before + "}");
            }
        }
        DUE.compares(1, "whole w{connect a.b to c.d;}", "whole w{connect a.b to c.e;}");
        DUE.compares(1, "whole w{connect a.b to c.d;}", "whole w{connect c.d to a.b;}");
    }

    private static void blocks() {
        DUE.compares(0, "part p{keeps a:t;}", "part p{keeps b:t;keeps a:t;}");
        DUE.compares(1, "part p{keeps b:t;keeps a:t;}", "part p{keeps a:t;}");
        DUE.compares(3, "part p{keeps a:t;}", "part q{keeps a:t;}");
        DUE.compares(1, "part p{}part q{keeps a:t;}", "part p{keeps a:t;}part q{}");
        DUE.compares(0, "part p{}part p{keeps a:t;}", "part p{keeps a:t;}part p{}");
        DUE.compares(2, "part p{}part q{}", "part q{keeps a:t;}");
        DUE.compares(3, "interface f{data a:t;}", "interface g{data a:t;}");
        DUE.compares(1, "whole w{part a:p;}part a{}", "part a{}whole w{}");
        // What begins a block, and the } that ends it.
        String[] begins = {"interface p{}", "part p{}", "whole p{}", "part q{}"};
        for (String now : begins) {
            for (String before : begins) {
                DUE.compares(now.equals(before) ? 0 : 2, now, before);
            }
        }
        DUE.compares(0, "part p{}", "part p{keeps a:t;}");
        DUE.compares(2, "part p{}unit a=1/1 k;", "unit a=1/1 k;part q{}");
    }

    private static void asMany() {
        DUE.sentence("(one there stands for as many here as are written alike).");
        DUE.compares(0, "unit a=1/1 k;".repeat(2), "unit a=1/1 k;");
        DUE.compares(0, "unit a=1/1 k;".repeat(100), "unit a=1/1 k;");
        DUE.compares(0, "unit a=1/1 k;", "unit a=1/1 k;".repeat(100));
        DUE.compares(2, "unit b=1/1 k;unit b=1/1 k;", "unit a=1/1 k;");
        DUE.compares(2, "unit b=1/1 k;unit a=1/1 k;unit b=1/1 k;", "unit a=1/1 k;");
        DUE.compares(0, "part p{keeps a:t;keeps a:t;}part p{keeps a:t;}", "part p{keeps a:t;}");
        DUE.compares(3, "part p{keeps a:t;}part q{keeps a:t;}", "part p{keeps a:t;}");
    }

    private static void noEdition() {
        DUE.sentence("-1 there is no such EDITION, or it is not kept.");
        PartText x = new PartText();
        DUE.is("nothing in hand", -1, x.compare(1));
        for (int i = 1; i <= 8; i++) {
            DUE.is("edition " + i + " is not there yet", -1, x.compare(i));
            Due.typeAndRead(x, Due.units(i));
            DUE.is("edition " + i, 0, x.compare(i));
        }
        for (int other : new int[] {0, -1, 9, 10, 11, Integer.MIN_VALUE, Integer.MAX_VALUE}) {
            DUE.is("compare(" + other + ")", -1, x.compare(other));
        }
        for (int more = 9; more <= 12; more++) {
            Due.typeAndRead(x, Due.units(more));
            for (int i = 1; i <= 8; i++) {
                DUE.is(more + " rows with edition " + i, more - i, x.compare(i));
            }
            DUE.is("edition " + more + " is not kept", -1, x.compare(more));
            DUE.is("nor is edition 9", -1, x.compare(9));
            DUE.is("a fault", -1, Due.typeAndRead(x, "unit x=1/1 k;?"));
            DUE.is("what is in hand stays", more - 1, x.compare(1));
        }
    }
}
