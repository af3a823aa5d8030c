/** Promise 1: no text, no edition. */
public final class Promise01NewObjectTest {
    private static final Due DUE = new Due();

    public static void main(String[] args) {
        DUE.sentence("No text, no EDITION.");
        noText();
        noEdition();
        nothingShared();
        DUE.end();
    }

    private static void noText() {
        PartText x = new PartText();
        for (int i : new int[] {-1, 0, 1, 3, 1999, 2000}) {
            DUE.is("at(" + i + ")", -1, x.at(i));
        }
        DUE.is("read() of no text", 0, x.read());
        DUE.is("part(1, 0)", -1, x.part(1, 0));
        DUE.is("check() of no rows", 0, x.check());
        DUE.is("print() of no rows", 0, x.print());
        DUE.is("compare(1) with itself", 0, x.compare(1));
    }

    private static void noEdition() {
        PartText x = new PartText();
        for (int what = -1; what <= 6; what++) {
            DUE.is("part", -1, x.part(1, what));
            DUE.is("port", -1, x.port(1, 1, what));
            DUE.is("runnable", -1, x.runnable(1, 1, what));
            DUE.is("connector", -1, x.connector(1, what));
            DUE.is("unit", -1, x.unit(1, 1, what));
        }
        DUE.is("check()", -3, x.check());
        DUE.is("print()", -3, x.print());
        for (int other = -1; other <= 9; other++) {
            DUE.is("compare(" + other + ")", -1, x.compare(other));
        }
    }

    private static void nothingShared() {
        PartText one = Due.reading("part p { }");
        Due.type(one, "unit");
        PartText other = new PartText();
        DUE.is("no edition of another object", -3, other.check());
        DUE.is("no text of another object", -1, other.at(0));
        other.read();
        DUE.is("what is read by another object", 0, one.part(1, 1));
        DUE.is("its text stays", "unit", Due.text(one));
    }
}
