/** Promise 11: octet i of the text that is there. */
public final class Promise11AtTest {
    private static final Due DUE = new Due();

    public static void main(String[] args) {
        typedOrWritten();
        none();
        DUE.end();
    }

    private static void typedOrWritten() {
        DUE.sentence("Octet i of the text that is there (typed or written)");
        PartText x = new PartText();
        String typed = "unit a=1/1 k;\u00ff\u0001";
        Due.type(x, typed);
        for (int i = 0; i < typed.length(); i++) {
            DUE.is("at(" + i + ")", typed.charAt(i), x.at(i));
        }
        DUE.is("at changes nothing", typed, Due.text(x));

        PartText y = Due.reading("unit a=1/1 k;");
        y.print();
        String written = "unit a = 1 / 1 k ;\n";
        for (int i = 0; i < written.length(); i++) {
            DUE.is("written, at(" + i + ")", written.charAt(i), y.at(i));
        }
        y.sign('x');
        DUE.is("typed behind what is written", 'x', y.at(19));

        PartText full = new PartText();
        Due.type(full, "a".repeat(1999) + "b");
        DUE.is("at(1998)", 'a', full.at(1998));
        DUE.is("at(1999)", 'b', full.at(1999));
    }

    private static void none() {
        DUE.sentence("-1 there is none.");
        PartText x = new PartText();
        int[] never = {-1, -2, 2000, 2001, 65536, Integer.MIN_VALUE, Integer.MAX_VALUE};
        DUE.is("no text", -1, x.at(0));
        Due.type(x, "abcde");
        DUE.is("at(4)", 'e', x.at(4));
        DUE.is("at(5)", -1, x.at(5));
        DUE.is("at(1999)", -1, x.at(1999));
        for (int i : never) {
            DUE.is("at(" + i + ")", -1, x.at(i));
        }
        x.read();
        DUE.is("empty after a fault", -1, x.at(0));
        Due.typeAndRead(x, "unit a=1/1 k;");
        DUE.is("empty after read", -1, x.at(0));
        x.print();
        DUE.is("the last that is written", 10, x.at(18));
        DUE.is("behind what is written", -1, x.at(19));

        PartText full = new PartText();
        Due.type(full, "a".repeat(2000));
        for (int i : never) {
            DUE.is("a full text, at(" + i + ")", -1, full.at(i));
        }
    }
}
