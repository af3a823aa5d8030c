/** Promise 2: four octets, the highest first, those that are 0 passed over, 2000 at most. */
public final class Promise02SignTest {
    private static final Due DUE = new Due();

    public static void main(String[] args) {
        highestFirst();
        nulls();
        behindTheLimit();
        DUE.end();
    }

    private static void types(String want, int... calls) {
        PartText x = new PartText();
        for (int c : calls) {
            x.sign(c);
        }
        DUE.is("the text", want, Due.text(x));
    }

    private static void highestFirst() {
        DUE.sentence("Four octets more for the text, the highest first");
        types("abcd", 0x61626364);
        types("abcdefgh", 0x61626364, 0x65666768);
        types("\u00ff\u0080\u007f\u0001", 0xFF807F01);
        types("\u00ff\u00ff\u00ff\u00ff", -1);
        types("\u007f\u00ff\u00ff\u00ff", Integer.MAX_VALUE);
        for (int octet = 1; octet < 256; octet++) {
            PartText x = new PartText();
            x.sign(octet << 24 | octet);
            DUE.is("octet " + octet + " as the first", octet, x.at(0));
            DUE.is("octet " + octet + " as the last", octet, x.at(1));
        }
        PartText written = Due.reading("unit a=1/1 k;");
        written.print();
        Due.type(written, "x");
        DUE.is("more than what was written", "unit a = 1 / 1 k ;\nx", Due.text(written));
    }

    private static void nulls() {
        DUE.sentence("those that are 0 are passed over");
        types("");
        types("", 0);
        types("", 0, 0, 0);
        types("a", 0x61000000);
        types("a", 0x00610000);
        types("a", 0x00006100);
        types("a", 0x00000061);
        types("ab", 0x61000062);
        types("ab", 0x00610062);
        types("abc", 0x61006263);
        types("\u0080", Integer.MIN_VALUE);
        types("abcd", 0x61620000, 0, 0x00006364);
        PartText x = new PartText();
        for (char octet : "part p{}".toCharArray()) {
            x.sign(octet);
            x.sign(0);
        }
        DUE.is("read", 1, x.read());
    }

    private static void behindTheLimit() {
        DUE.sentence("and what comes behind 2000 is lost.");
        for (int before = 1996; before <= 2000; before++) {
            PartText x = new PartText();
            Due.type(x, "a".repeat(before));
            x.sign(0x62636465);
            for (int i = 1995; i <= 2001; i++) {
                int want = i >= 2000 ? -1 : i < before ? 'a' : 'b' + i - before;
                DUE.is("octet " + i + " with " + before + " before", want, x.at(i));
            }
        }
        PartText nulls = new PartText();
        Due.type(nulls, "a".repeat(1999));
        nulls.sign(0);
        nulls.sign(0x00000062);
        DUE.is("a null takes no place", 'b', nulls.at(1999));

        PartText lost = new PartText();
        Due.type(lost, " ".repeat(2000));
        lost.sign('?');
        DUE.is("what is lost is not read", 0, lost.read());
        DUE.is("nor does it come back", -1, lost.at(0));
        lost.sign('?');
        DUE.is("after read there is room", '?', lost.at(0));
        DUE.is("and it is read", -1, lost.read());

        // Behind a text of 2000 that was written.
        PartText written = Due.reading("unit a=1/1 k;".repeat(104) + "unit abcdef=1/1 k;");
        written.print();
        written.sign('?');
        DUE.is("the last one that was written", 10, written.at(1999));
        DUE.is("behind it", -1, written.at(2000));
        DUE.is("read", 0, written.read());
    }
}
