import java.util.ArrayList;
import java.util.List;

/** Terms: what a text is, token by token, its rows and its fault. */
public final class Terms2GrammarTest {
    private static final Due DUE = new Due();
    private static final String STATEMENTS = "unit type interface part whole";
    private static final String OF_PART = "provides requires keeps run }";
    private static final String VALUES = "0 1 9999 10000 999999";
    /** Every token that can be due somewhere, and some that never are. */
    private static final String[] TOKENS = ("unit type interface data part provides requires keeps run every on reads"
        + " writes whole connect to N 0 1 9999 10000 999999 { } ; : . = / - ? 1234567 abcdefghijklm 1a A").split(" ");

    public static void main(String[] args) {
        statements();
        units();
        types();
        blocks();
        data();
        partMembers();
        triggers();
        accesses();
        wholeMembers();
        rows();
        rowLimit();
        firstFault();
        faultOfOctet();
        faultOfLength();
        faultOfEnd();
        DUE.end();
    }

    /** What a text goes on with after the tokens, on line 2: the fault is there, or at the end on line 3. */
    private static void goesOn(String before, String due) {
        List<String> good = List.of(due.split(" "));
        for (String token : TOKENS) {
            String text = before + "\n" + token.replace("N", "name") + "\n";
            if (!good.contains(token)) {
                DUE.reads(-2, text);
            } else if (mayEnd(before, token)) {
                DUE.reads(count(before, '{') - (before.contains("interface") ? 1 : 0), text);
            } else {
                DUE.reads(-3, text);
            }
        }
    }

    /** Whether a text may end here, which is seen from the blocks that are open. */
    private static boolean mayEnd(String before, String token) {
        int open = count(before, '{') - count(before, '}');
        return token.equals("}") ? open == 1 : token.equals(";") && open == 0;
    }

    private static int count(String text, char sign) {
        return (int) text.chars().filter(c -> c == sign).count();
    }

    private static void statements() {
        DUE.sentence("A TEXT is STATEMENTS, none or more");
        DUE.reads(0, "");
        DUE.reads(0, "unit a=1/1 k;");
        DUE.reads(2, "part p{}unit a=1/1 k;whole w{}type t=1 to 2 a;interface f{}");
        goesOn("", STATEMENTS);
        goesOn("unit a = 1 / 1 k ;", STATEMENTS);
        goesOn("type t = 1 to 2 a ;", STATEMENTS);
        goesOn("interface f { }", STATEMENTS);
        goesOn("part p { run a ; }", STATEMENTS);
        goesOn("whole w { part a : p ; }", STATEMENTS);
    }

    private static void units() {
        DUE.sentence("unit N = Z / Z N ; (both Z 1 to 9999; the last N is its KIND)");
        goesOn("unit", "N");
        goesOn("unit a", "=");
        goesOn("unit a =", "1 9999");
        goesOn("unit a = 1", "/");
        goesOn("unit a = 1 /", "1 9999");
        goesOn("unit a = 1 / 1", "N");
        goesOn("unit a = 1 / 1 k", ";");
        int[] edges = {0, 1, 2, 9998, 9999, 10000, 10001, 99999, 100000, 999999};
        for (int edge : edges) {
            int want = edge >= 1 && edge <= 9999 ? 0 : -1;
            DUE.reads(want, "unit a=" + edge + "/1 k;");
            DUE.reads(want, "unit a=1/" + edge + " k;");
            DUE.reads(want, "unit a=" + edge + "/" + edge + " k;");
        }
        DUE.reads(0, "unit a=009999/000001 k;");
        DUE.reads(-1, "unit a=010000/1 k;");
        DUE.reads(-1, "unit a=000/1 k;");
        DUE.reads(-1, "unit a=-1/1 k;");
        PartText x = Due.reading("unit a=1/1 k;unit b=1/1 k;unit k=1/1 a;");
        DUE.is("two of a KIND", 1, x.unit(1, 2, 0));
        DUE.is("two KINDS", -3, x.unit(1, 3, 0));
        DUE.is("a KIND is no unit", 0, x.check());
    }

    private static void types() {
        DUE.sentence("(N is a NAME that is no WORD, Z a NUMBER, V is Z or - Z)");
        goesOn("type t =", "- " + VALUES);
        goesOn("type t = -", VALUES);
        goesOn("type t = 1 to", "- " + VALUES);
        goesOn("type t = 1 to -", VALUES);
        DUE.reads(0, "type t=-0 to -999999 a;");
        DUE.reads(-1, "type t=--1 to 1 a;");
        DUE.reads(-1, "type t=1 to --1 a;");

        DUE.sentence("type N = V to V N ; (the last N is a unit's)");
        goesOn("type", "N");
        goesOn("type t", "=");
        goesOn("type t = 1", "to");
        goesOn("type t = - 1", "to");
        goesOn("type t = 1 to 2", "N");
        goesOn("type t = 1 to - 2", "N");
        goesOn("type t = 1 to 2 a", ";");
        DUE.checks(0, "type t=1 to 2 a;unit a=1/1 k;");
        DUE.checks(102, "type t=1 to 2 k;unit a=1/1 k;");
    }

    private static void blocks() {
        DUE.sentence("interface N { MEMBERS } part N { MEMBERS } whole N { MEMBERS }");
        for (String word : "interface part whole".split(" ")) {
            goesOn(word, "N");
            goesOn(word + " f", "{");
        }
        DUE.reads(-1, "interface f{}}");
        DUE.reads(-1, "part p{};");
        DUE.reads(-1, "part p{part q{}}");
        DUE.reads(-1, "whole w{part q{}}");
    }

    private static void data() {
        DUE.sentence("MEMBERS, none or more, of an interface: data N : N ; (the second N is a type's)");
        goesOn("interface f {", "data }");
        goesOn("interface f { data", "N");
        goesOn("interface f { data d", ":");
        goesOn("interface f { data d :", "N");
        goesOn("interface f { data d : t", ";");
        goesOn("interface f { data d : t ;", "data }");
        String types = "unit a=1/1 k;type t=1 to 2 a;";
        DUE.checks(0, types + "interface f{data d:t;}");
        DUE.checks(402, types + "interface f{data d:a;}");
        DUE.checks(402, types + "interface f{data d:f;}");
    }

    private static void partMembers() {
        DUE.sentence("Of a part: provides N : N ; requires N : N ; (PORTS, the second N is an interface's) keeps N : N ;"
            + " (.. a type's)");
        goesOn("part p {", OF_PART);
        for (String word : "provides requires keeps".split(" ")) {
            goesOn("part p { " + word, "N");
            goesOn("part p { " + word + " a", ":");
            goesOn("part p { " + word + " a :", "N");
            goesOn("part p { " + word + " a : b", ";");
            goesOn("part p { " + word + " a : b ;", OF_PART);
        }
        String types = "unit a=1/1 k;type t=1 to 2 a;interface f{}";
        DUE.checks(0, types + "part p{provides x:f;requires y:f;keeps z:t;}");
        DUE.checks(602, types + "part p{provides x:t;requires y:f;keeps z:t;}");
        DUE.checks(702, types + "part p{provides x:f;requires y:t;keeps z:t;}");
        DUE.checks(802, types + "part p{provides x:f;requires y:f;keeps z:f;}");
    }

    private static void triggers() {
        DUE.sentence("run N TRIGGER ACCESSES ; with TRIGGER every Z (above 0), on N . N, or nothing,");
        goesOn("part p { run", "N");
        goesOn("part p { run a", "every on reads writes ;");
        goesOn("part p { run a every", "1 9999 10000 999999");
        goesOn("part p { run a every 1", "reads writes ;");
        goesOn("part p { run a on", "N");
        goesOn("part p { run a on b", ".");
        goesOn("part p { run a on b .", "N");
        goesOn("part p { run a on b . c", "reads writes ;");
        goesOn("part p { run a every 1 ;", OF_PART);
        goesOn("part p { run a ;", OF_PART);
        DUE.reads(-1, "part p{run a every 000000;}");
        DUE.reads(1, "part p{run a every 000001;}");
        DUE.reads(-1, "part p{run a every -1;}");
    }

    private static void accesses() {
        DUE.sentence("and ACCESSES reads N . N, writes N . N, none or more, 8 at most");
        for (String word : "reads writes".split(" ")) {
            for (String trigger : new String[] {"", " every 1", " on x . y"}) {
                String run = "part p { run a" + trigger;
                goesOn(run + " " + word, "N");
                goesOn(run + " " + word + " b", ".");
                goesOn(run + " " + word + " b .", "N");
                String access = " " + word + " b . c";
                for (int n = 1; n <= 7; n++) {
                    goesOn(run + access.repeat(n), "reads writes ;");
                }
                goesOn(run + access.repeat(8), ";");
                goesOn(run + access.repeat(8) + ";", OF_PART);
                goesOn(run + " reads b . c writes b . c".repeat(4), ";");
                goesOn(run + access.repeat(8) + "; run a" + access.repeat(7), "reads writes ;");
            }
        }
    }

    private static void wholeMembers() {
        DUE.sentence("Of a whole: part N : N ; (an INNER, the second N is a part's or a whole's)"
            + " connect N . N to N . N ;");
        String inside = "part connect }";
        goesOn("whole w {", inside);
        goesOn("whole w { part", "N");
        goesOn("whole w { part a", ":");
        goesOn("whole w { part a :", "N");
        goesOn("whole w { part a : p", ";");
        goesOn("whole w { part a : p ;", inside);
        goesOn("whole w { connect", "N");
        goesOn("whole w { connect a", ".");
        goesOn("whole w { connect a .", "N");
        goesOn("whole w { connect a . b", "to");
        goesOn("whole w { connect a . b to", "N");
        goesOn("whole w { connect a . b to c", ".");
        goesOn("whole w { connect a . b to c .", "N");
        goesOn("whole w { connect a . b to c . d", ";");
        goesOn("whole w { connect a . b to c . d ;", inside);
        DUE.checks(0, "part p{}whole v{}whole w{part a:p;part b:v;}");
        DUE.checks(402, "interface f{}whole w{part a:f;}");
    }

    private static void rows() {
        DUE.sentence("ROWS are the statements and members that end with ; and what begins a block (\"part N {\"),"
            + " and each } that ends one");
        DUE.checks(102, "type t=1 to 2 nix;");
        DUE.checks(202, "unit a=1/1 k;type t=1 to 2 nix;");
        DUE.checks(402, "interface f{}unit a=1/1 k;type t=1 to 2 nix;");
        DUE.checks(202, "interface f{data d:t;}");
        DUE.checks(302, "interface f{}type t=1 to 2 nix;");
        DUE.checks(802, "part p{}whole w{part a:p;}part q{run r every 1;keeps k:nix;}");
        DUE.prints("part p {\nrun a ;\n}\nwhole w {\n}\n", "part p{run a;}whole w{}");
    }

    private static void rowLimit() {
        DUE.sentence("they are numbered from 1 on as they stand, 120 at most.");
        String unit = "unit a=1/1 k;";
        DUE.reads(0, unit.repeat(120));
        DUE.reads(-1, unit.repeat(121));
        DUE.reads(60, "part p{}".repeat(60));
        DUE.reads(-1, "part p{}".repeat(60) + unit);
        DUE.reads(1, "part p{" + "run a;".repeat(118) + "}");
        DUE.reads(-1, "part p{" + "run a;".repeat(119) + "}");
        DUE.reads(0, "interface f{" + "data a:b;".repeat(118) + "}");
        DUE.reads(1, "whole w{" + "part a:b;".repeat(118) + "}");
        DUE.checks(12002, Due.units(119) + "type t=1 to 2 nix;");
        DUE.checks(11902, Due.units(118) + "type t=1 to 2 nix;" + unit);

        DUE.sentence("(also of one that begins a row too many)");
        for (String row : "unit type interface part whole".split(" ")) {
            DUE.reads(-2, unit.repeat(120) + "\n" + row + "\n");
        }
        DUE.reads(-2, unit.repeat(120) + "\nunit b=1/1\nk;");
        DUE.reads(-2, unit.repeat(119) + "part p{\n}\n");
        DUE.reads(-2, unit.repeat(119) + "part p{\nrun a;\n}");
        DUE.reads(-2, unit.repeat(118) + "part p{run a;\n}\n");
        DUE.reads(1, unit.repeat(118) + "part p{\n}\n");
        DUE.reads(-3, unit.repeat(119) + "part p\n\n");
        DUE.reads(0, unit.repeat(120) + "\n\n");
    }

    private static void firstFault() {
        DUE.sentence("THE FAULT is the LINE of the first token with which no text goes on");
        List<String> faults = new ArrayList<>(List.of(";", "name", "5", "data", "?", "\u00e4", "abcdefghijklm", "1234567",
            "1a"));
        for (String first : faults) {
            for (String second : faults) {
                DUE.reads(-2, "part p { }\n" + first + "\npart q { }\n" + second);
                DUE.reads(-3, "part p {\n\n" + first + "\n}\n" + second);
            }
        }
        DUE.reads(-2, "unit a =\n0\n/ 0 k ;");
        DUE.reads(-3, "unit a = 1\n/\n10000\nk ;");
        DUE.reads(-1, "a\n");
    }

    private static void faultOfOctet() {
        DUE.sentence("of an octet with which no token begins");
        String tokens = "abcdefghijklmnopqrstuvwxyz0123456789{};:.=/-\t\n\r ";
        for (char octet = 1; octet < 256; octet++) {
            if (tokens.indexOf(octet) < 0) {
                DUE.reads(-3, "unit a\n=\n" + octet + "\n");
                DUE.reads(-2, "unit a=1/1 k;\n" + octet);
                DUE.reads(-2, "\n" + octet + "part p{}\n");
            }
        }
    }

    private static void faultOfLength() {
        DUE.sentence("of the first letter or digit that a NAME or NUMBER is too long by");
        DUE.reads(-2, "unit\nabcdefghijklm\n= 1 / 1 k ;");
        DUE.reads(-2, "unit\nabcdefghijkl0\n= 1 / 1 k ;");
        DUE.reads(-2, "unit\nabcdefghijklmnopqrstuvwxyz0123456789\n= 1 / 1 k ;");
        DUE.reads(-3, "unit\nabcdefghijkl\nm = 1 / 1 k ;");
        DUE.reads(-2, "type t =\n1234567\nto 1 a ;");
        DUE.reads(-2, "type t = -\n0000000\nto 1 a ;");
        DUE.reads(-3, "type t =\n123456\n7 to 1 a ;");
        DUE.reads(-2, "unit a =\n0000001\n/ 1 k ;");
    }

    private static void faultOfEnd() {
        DUE.sentence("or of the text's end.");
        String[] open = {"unit", "unit a", "unit a =", "unit a = 1", "unit a = 1 /", "unit a = 1 / 1",
            "unit a = 1 / 1 k", "type", "type t = -", "type t = 1", "type t = 1 to", "type t = 1 to 2",
            "type t = 1 to 2 a", "interface", "interface f", "interface f {", "interface f { data d : t",
            "interface f { data d : t ;", "part p {", "part p { run", "part p { run a", "part p { run a every 1",
            "part p { run a on b . c", "part p { run a reads b . c", "part p { run a ;", "whole w {",
            "whole w { part a : b ;", "whole w { connect a . b to c . d"};
        for (String text : open) {
            DUE.reads(-1, text);
            DUE.reads(-1, text + " \t\r");
            DUE.reads(-2, text + "\n");
            DUE.reads(-4, text + " \n\r\n \n\t");
            DUE.reads(-3, "\n" + text + "\n");
            DUE.reads(-3, "unit a = 1 / 1 k ;\n\n" + text);
        }
    }
}
