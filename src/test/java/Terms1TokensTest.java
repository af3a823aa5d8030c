import java.util.List;

/** Terms: the text, blanks, lines, tokens and words, each to its limits. */
public final class Terms1TokensTest {
    private static final Due DUE = new Due();
    private static final String LETTERS = "abcdefghijklmnopqrstuvwxyz";
    private static final String DIGITS = "0123456789";
    private static final String BLANKS = "\t\n\r ";
    private static final List<String> WORDS = List.of(("unit type interface data part provides requires keeps run"
        + " every on reads writes whole connect to").split(" "));

    public static void main(String[] args) {
        theText();
        blanks();
        lines();
        longest();
        names();
        numbers();
        signs();
        words();
        DUE.end();
    }

    private static void theText() {
        DUE.sentence("THE TEXT is a row of octets, at most 2000.");
        DUE.reads(1, " ".repeat(1992) + "part p{}");
        DUE.reads(-1, " ".repeat(1993) + "part p{}");
        DUE.reads(-2000, "\n".repeat(1999) + "?");
        DUE.reads(0, "\n".repeat(2000) + "?");
        DUE.reads(0, "");
    }

    /** Whether a text goes without a fault, for each octet at the place of the @ in it. */
    private static void octetsAt(String pattern, String good) {
        for (char octet = 1; octet < 256; octet++) {
            int parts = Due.typeAndRead(new PartText(), pattern.replace('@', octet));
            DUE.is("no fault in <" + pattern + "> with octet " + (int) octet, good.indexOf(octet) >= 0 ? 1 : 0,
                parts >= 0 ? 1 : 0);
        }
    }

    private static void blanks() {
        DUE.sentence("BLANKS are 9, 10, 13, 32");
        octetsAt("@part p{}", BLANKS);
        octetsAt("part@p{}", BLANKS);
        octetsAt("part p@{}", BLANKS + LETTERS + DIGITS);
        octetsAt("part p{@}", BLANKS);
        octetsAt("part p{}@", BLANKS);
        octetsAt("type t=-@1 to 2 a;", BLANKS + DIGITS);
        DUE.reads(1, "part p{}".replace("", " \t\r\n").replace("p \t\r\na \t\r\nr \t\r\nt", "part"));
    }

    private static void lines() {
        DUE.sentence("LINES are counted from 1 on, each 10 ends one.");
        for (int line = 1; line <= 40; line++) {
            DUE.reads(-line, "\n".repeat(line - 1) + "?");
            DUE.reads(-line, "part p{}\n".repeat(line - 1) + "?\n\n");
        }
        DUE.reads(-1, "\r\t ?");
        DUE.reads(-3, "\r\n\r\n?");
        DUE.reads(-3, "\n\r\n\r?");
        DUE.reads(-4, "unit\na\n=\n?");
    }

    private static void longest() {
        DUE.sentence("TOKENS are the longest that can be read at a place");
        DUE.reads(-1, "partp{}");
        DUE.reads(1, "part partp{}");
        DUE.reads(1, "part part1{}");
        DUE.reads(-1, "part p q{}");
        DUE.reads(-1, "pa rt p{}");
        DUE.reads(-1, "type t=1 2 to 3 a;");
        DUE.reads(-1, "type t=1 to 2a;");
        DUE.reads(-1, "type t=1 to2 a;");
        DUE.prints("type t = 123456 to 654321 a ;\n", "type t=123456 to 654321 a;");
        DUE.prints("unit a1b2 = 12 / 34 k56 ;\n", "unit a1b2=12/34 k56;");
        DUE.prints("part abc {\n}\npart ab {\n}\npart c {\n}\n", "part abc{}part ab{}part c{}");
    }

    private static void names() {
        DUE.sentence("NAMES (a letter a to z, then such letters and digits, 12 at most)");
        octetsAt("unit @=1/1 k;", LETTERS);
        octetsAt("unit a@=1/1 k;", LETTERS + DIGITS + BLANKS);
        octetsAt("unit abcdefghijk@=1/1 k;", LETTERS + DIGITS + BLANKS);
        octetsAt("unit abcdefghijkl@=1/1 k;", BLANKS);
        for (int length = 1; length <= 40; length++) {
            int want = length <= 12 ? 0 : -1;
            DUE.reads(want, "unit " + "z".repeat(length) + "=1/1 k;");
            DUE.reads(want, "unit a" + "0".repeat(length - 1) + "=1/1 k;");
            DUE.reads(want, "unit a=1/1 " + "a".repeat(length) + ";");
        }
        PartText x = Due.reading("unit zzzzzzzzzzzz=1/1 zzzzzzzzzzzy;unit yzzzzzzzzzzz=1/1 z0;unit z00=1/1 z;"
            + "part zzzzzzzzzzzz{}part zzzzzzzzzzzy{}part yzzzzzzzzzzz{}part z0{}part z00{}part z{}");
        for (int i = 1; i <= 6; i++) {
            DUE.is("names that differ by a letter, part(" + i + ", 0)", i, x.part(i, 0));
        }
    }

    private static void numbers() {
        DUE.sentence("NUMBERS (digits, 6 at most; a letter right behind is none)");
        for (int length = 1; length <= 20; length++) {
            int want = length <= 6 ? 0 : -1;
            DUE.reads(want, "type t=" + "9".repeat(length) + " to 1 a;");
            DUE.reads(want, "type t=1 to -" + "0".repeat(length) + " a;");
            DUE.reads(want, "unit a=" + "0".repeat(length - 1) + "1/1 k;");
        }
        octetsAt("type t=1@ to 2 a;", DIGITS + BLANKS);
        octetsAt("type t=12345@ to 2 a;", DIGITS + BLANKS);
        octetsAt("type t=123456@ to 2 a;", BLANKS);
        octetsAt("type t=@ to 2 a;", DIGITS);
        octetsAt("unit a=1/1@k;", BLANKS);
        octetsAt("unit a=1@1 k;", "/");
        DUE.reads(1, "part p{run r every 5;}");
        DUE.reads(-1, "part p{run r every 5reads a.b;}");
    }

    private static void signs() {
        DUE.sentence("and the SIGNS { } ; : . = / -.");
        octetsAt("part p@}", "{");
        octetsAt("part p{@", "}");
        octetsAt("unit a=1/1 k@", ";");
        octetsAt("interface f{data d@t;}", ":");
        octetsAt("part p{run r on a@b;}", ".");
        octetsAt("whole w{connect a.b to c@d;}", ".");
        octetsAt("unit a@1/1 k;", "=");
        octetsAt("unit a=1@1 k;", "/");
        octetsAt("type t=@1 to 2 a;", "-" + DIGITS + BLANKS);
        octetsAt("type t=@-1 to 2 a;", BLANKS);
    }

    private static void words() {
        DUE.sentence("These NAMES are WORDS, which name nothing: unit type interface data part provides requires keeps"
            + " run every on reads writes whole connect to.");
        String[] places = {"unit @=1/1 k;", "unit a=1/1 @;", "type @=1 to 2 a;", "type t=1 to 2 @;", "interface @{}",
            "part @{}", "whole @{}", "interface f{data @:t;}", "interface f{data d:@;}", "part p{provides @:f;}",
            "part p{provides d:@;}", "part p{requires @:f;}", "part p{requires d:@;}", "part p{keeps @:t;}",
            "part p{keeps d:@;}", "part p{run @;}", "part p{run r on @.d;}", "part p{run r on a.@;}",
            "part p{run r reads @.d;}", "part p{run r reads a.@;}", "part p{run r writes @.d;}",
            "part p{run r writes a.@;}", "whole w{part @:p;}", "whole w{part a:@;}", "whole w{connect @.b to c.d;}",
            "whole w{connect a.@ to c.d;}", "whole w{connect a.b to @.d;}", "whole w{connect a.b to c.@;}"};
        for (String place : places) {
            int parts = place.startsWith("part") || place.startsWith("whole") ? 1 : 0;
            for (String word : WORDS) {
                DUE.reads(-1, place.replace("@", word));
                DUE.reads(parts, place.replace("@", word + "s"));
                DUE.reads(parts, place.replace("@", word + "1"));
                DUE.reads(parts, place.replace("@", "x" + word));
                DUE.reads(parts, place.replace("@", word.substring(0, word.length() - 1)));
            }
        }
    }
}
