/** What the tests share: typing a text, and counting the answers that are not the ones due. */
final class Due {
    private int wrong = 0;
    private int asked = 0;
    private String text = "";
    private String sentence = "";
    private int askedBefore = 0;

    /** A new object that has read the text. */
    static PartText reading(String text) {
        PartText x = new PartText();
        type(x, text);
        x.read();
        return x;
    }

    /** Types a text, four octets to a call; what is missing from the last four is 0. */
    static void type(PartText x, String text) {
        for (int i = 0; i < text.length(); i += 4) {
            int c = 0;
            for (int k = 0; k < 4; k++) {
                c = c << 8 | (i + k < text.length() ? text.charAt(i + k) : 0);
            }
            x.sign(c);
        }
    }

    static int typeAndRead(PartText x, String text) {
        type(x, text);
        return x.read();
    }

    /** Rows of units with names of their own. */
    static String units(int count) {
        StringBuilder rows = new StringBuilder();
        for (int i = 0; i < count; i++) {
            rows.append("unit u").append(i).append("=1/1 k;");
        }
        return rows.toString();
    }

    /** The text that is there. */
    static String text(PartText x) {
        StringBuilder row = new StringBuilder();
        for (int octet = x.at(0); octet >= 0; octet = x.at(row.length())) {
            row.append((char) octet);
        }
        return row.toString();
    }

    /** The document's words that the answers from here on would not fit if they didn't hold. */
    void sentence(String quote) {
        endSentence();
        sentence = quote;
        askedBefore = asked;
    }

    private void endSentence() {
        if (!sentence.isEmpty() && asked == askedBefore) {
            tell("no answer is asked for");
        }
    }

    /** The text that is told with the wrong answers from here on. */
    void about(String told) {
        text = told;
    }

    void is(String call, long want, long got) {
        asked++;
        if (got != want) {
            tell(call + " answered " + got + ", due is " + want);
        }
    }

    void is(String call, String want, String got) {
        asked++;
        if (!got.equals(want)) {
            tell(call + " answered <" + got + ">, due is <" + want + ">");
        }
    }

    private void tell(String answer) {
        wrong++;
        System.out.println((sentence.isEmpty() ? "" : "<" + sentence + "> ") + answer
            + (text.isEmpty() ? "" : ", the text is <" + text + ">"));
    }

    /** What reading the text on a new object answers. */
    void reads(int want, String text) {
        is("read of <" + text + ">", want, typeAndRead(new PartText(), text));
    }

    /** What check answers for the text, which must have no fault. */
    void checks(int want, String text) {
        PartText x = new PartText();
        int parts = typeAndRead(x, text);
        is("no fault in <" + text + ">", 1, parts >= 0 ? 1 : 0);
        is("check of <" + text + ">", want, x.check());
    }

    /** What print answers for the text, and what is there then. */
    void prints(String want, String text) {
        PartText x = reading(text);
        is("print of <" + text + ">", want.length(), x.print());
        is("what is written of <" + text + ">", want, text(x));
    }

    /** How many rows of the text one that was read before it has not. */
    void compares(int want, String now, String before) {
        PartText x = reading(before);
        typeAndRead(x, now);
        is("<" + now + "> compared with <" + before + ">", want, x.compare(1));
    }

    void end() {
        endSentence();
        System.out.println(asked + " answers, " + wrong + " not as due");
        if (wrong != 0 || asked == 0) {
            System.exit(1);
        }
    }
}
