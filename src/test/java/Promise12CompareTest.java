/** Promise 12: how many rows of what is in hand another edition has not. */
public final class Promise12CompareTest {
    private static final Due DUE = new Due();

    public static void main(String[] args) {
        rows();
        blocks();
        writtenAlike();
        editions();
        DUE.end();
    }

    /** How many rows of a text one that was read before it has not. */
    private static void compares(int want, String now, String before) {
        PartText x = Due.reading(before);
        Due.typeAndRead(x, now);
        DUE.is("<" + now + "> with <" + before + ">", want, x.compare(1));
        DUE.is("with itself", 0, x.compare(2));
    }

    private static void rows() {
        compares(0, "", "");
        compares(0, "", "part p{}");
        compares(2, "part p{}", "");
        compares(0, "unit a=1/1 k;", "unit b=1/1 k;unit a=1/1 k;");
        compares(1, "unit b=1/1 k;unit a=1/1 k;", "unit a=1/1 k;");
        compares(1, "unit a=1/1 k;", "unit a=1/1 j;");
        compares(1, "unit a=1/1 k;", "unit a=1/2 k;");
        compares(1, "unit a=1/1 k;", "unit a=2/1 k;");
        compares(0, "unit b=1/1 a;unit a=1/1 b;", "unit a=1/1 b;unit b=1/1 a;");
        compares(1, "type t=1 to 2 a;", "type t=-1 to 2 a;");
        compares(1, "type t=1 to 2 a;", "type t=1 to -2 a;");
        compares(1, "type t=1 to 2 a;", "type t=1 to 2 b;");
        compares(2, "part p{}", "whole p{}");
        compares(0, "unit a=1/1 k;unit a=1/1 k;", "unit a=1/1 k;");
        compares(2, "unit b=1/1 k;unit b=1/1 k;", "unit a=1/1 k;");
    }

    private static void blocks() {
        compares(0, "part p{keeps a:t;}", "part p{keeps b:t;keeps a:t;}");
        compares(1, "part p{keeps b:t;keeps a:t;}", "part p{keeps a:t;}");
        compares(3, "part p{keeps a:t;}", "part q{keeps a:t;}");
        compares(1, "part p{}part q{keeps a:t;}", "part p{keeps a:t;}part q{}");
        compares(0, "part p{}part p{keeps a:t;}", "part p{keeps a:t;}part p{}");
        compares(2, "part p{}part q{}", "part q{keeps a:t;}");
        compares(1, "part p{requires a:t;}", "part p{provides a:t;}");
        compares(1, "whole w{part a:p;}part a{}", "part a{}whole w{}");
        compares(3, "interface f{data a:t;}", "interface g{data a:t;}");
        compares(1, "part p{run a;}", "part p{run a every 1;}");
        compares(1, "part p{run a every 1;}", "part p{run a every 2;}");
        compares(1, "part p{run a reads b.c;}", "part p{run a writes b.c;}");
        compares(1, "part p{run a reads b.c;}", "part p{run a reads b.c reads b.c;}");
        compares(1, "part p{run a on b.c;}", "part p{run a on b.d;}");
        compares(1, "whole w{connect a.b to c.d;}", "whole w{connect a.b to c.e;}");
        compares(1, "whole w{connect a.b to c.d;}", "whole w{connect c.d to a.b;}");
    }

    private static void writtenAlike() {
        compares(0, "unit a=01/001 k;", "unit  a = 1\n/ 1 k ;");
        compares(0, "type t=-0 to 007 a;", "type t=0 to 7 a;");
        compares(0, "part p{run a every 010;}", "part p{run a every 10;}");
        compares(1, "unit a=1/1 k;", "unit a1=1/1 k;");
        compares(1, "unit ab=1/1 k;", "unit ba=1/1 k;");
        compares(1, "unit a0=1/1 k;", "unit a00=1/1 k;");
    }

    private static void editions() {
        PartText x = new PartText();
        for (int i = 1; i <= 8; i++) {
            DUE.is("edition " + i + " is not there yet", -1, x.compare(i));
            Due.typeAndRead(x, many(i));
            DUE.is("edition " + i, 0, x.compare(i));
        }
        DUE.is("compare(0)", -1, x.compare(0));
        DUE.is("compare(-1)", -1, x.compare(-1));
        DUE.is("compare(least)", -1, x.compare(Integer.MIN_VALUE));
        DUE.is("compare(most)", -1, x.compare(Integer.MAX_VALUE));
        for (int more = 9; more <= 13; more++) {
            Due.typeAndRead(x, many(more));
            for (int i = 1; i <= 8; i++) {
                DUE.is(more + " rows with edition " + i, more - i, x.compare(i));
            }
            DUE.is("edition " + more + " is not kept", -1, x.compare(more));
            DUE.is("nor is edition 9", -1, x.compare(9));
            DUE.is("a fault", -1, Due.typeAndRead(x, "unit x=1/1 k;?"));
            DUE.is("what is in hand stays", more - 1, x.compare(1));
            x.print();
            DUE.is("and is written", 'u', x.at(0));
            DUE.is("all of it", more, lines(Due.text(x)));
            x.read();
            DUE.is("read again", more - 8, x.compare(8));
        }
    }

    private static int lines(String text) {
        return text.split("\n").length;
    }

    private static String many(int units) {
        StringBuilder row = new StringBuilder();
        for (int i = 0; i < units; i++) {
            row.append("unit u").append(i).append("=1/1 k;");
        }
        return row.toString();
    }
}
