/** Terms: editions, what is in hand, and refusals. */
public final class Terms5EditionsTest {
    private static final Due DUE = new Due();
    private static final String TEXT = "unit m=1/1 way;unit s=1/1 time;part p{requires i:f;provides o:f;run r on i.d;}"
        + "whole w{part a:p;connect a.o to a.i;}";

    public static void main(String[] args) {
        kept();
        inHand();
        refusals();
        firstThatFits();
        manyCalls();
        DUE.end();
    }

    private static void kept() {
        DUE.sentence("EDITIONS are the texts that were READ, numbered from 1 on, the first 8 are kept");
        PartText x = new PartText();
        DUE.is("no edition", -1, x.compare(1));
        for (int i = 1; i <= 10; i++) {
            Due.typeAndRead(x, Due.units(i));
            DUE.is("compare(0)", -1, x.compare(0));
            for (int other = 1; other <= 11; other++) {
                DUE.is(i + " rows, compare(" + other + ")", other > i || other > 8 ? -1 : i - other, x.compare(other));
            }
            DUE.is("a fault", -1, Due.typeAndRead(x, "?"));
            DUE.is("a fault is no edition", -1, x.compare(i + 1));
        }

        PartText same = new PartText();
        for (int i = 1; i <= 8; i++) {
            same.read();
            DUE.is("an empty text is an edition", 0, same.compare(i));
            DUE.is("it is one", -1, same.compare(i + 1));
        }
        same.read();
        DUE.is("the ninth", -1, same.compare(9));
        Due.typeAndRead(same, "part p{}");
        DUE.is("the eighth stays", 2, same.compare(8));
    }

    private static void inHand() {
        DUE.sentence("the last one that was READ is IN HAND (kept or not).");
        PartText x = new PartText();
        DUE.is("none", -3, x.check());
        for (int i = 1; i <= 12; i++) {
            DUE.is("read", i, Due.typeAndRead(x, "part p{}".repeat(i)));
            DUE.is("the last of " + i, 0, x.part(i, 1));
            DUE.is("no more than " + i, -1, x.part(i + 1, 1));
            Due.type(x, "part p{}");
            DUE.is("what is typed is not in hand", -1, x.part(i + 1, 1));
            DUE.is("a fault", -1, Due.typeAndRead(x, "whole w{}?"));
            DUE.is("after a fault, the last of " + i, 0, x.part(i, 1));
            DUE.is("after a fault, no more than " + i, -1, x.part(i + 1, 1));
            DUE.is("it is written", 11 * i, x.print());
            x.sign('?');
            DUE.is("a fault on line " + (2 * i + 1), -(2 * i + 1), x.read());
        }
        DUE.is("compare with the first", 0, x.compare(1));
    }

    /** All that an object tells, the text first and what is in hand at last, which is written then. */
    private static String told(PartText x) {
        StringBuilder all = new StringBuilder(Due.text(x)).append('|');
        all.append(x.check()).append(' ').append(x.part(1, 0)).append(' ').append(x.part(2, 5));
        for (int i = 1; i <= 9; i++) {
            all.append(' ').append(x.compare(i));
        }
        all.append(' ').append(x.print()).append(Due.text(x)).append(' ').append(x.read());
        for (int i = 1; i <= 9; i++) {
            all.append(' ').append(x.compare(i));
        }
        return all.toString();
    }

    /** An object after some steps, so many that its editions are not all kept, or fewer. */
    private static PartText after(int steps) {
        PartText x = new PartText();
        for (int empty = 0; empty < 7 && steps > 6; empty++) {
            x.read();
        }
        for (int step = 0; step < steps; step++) {
            if (step % 3 == 0) {
                Due.type(x, step % 2 == 0 ? TEXT : Due.units(step));
            } else if (step % 3 == 1) {
                x.read();
            } else {
                Due.typeAndRead(x, step % 2 == 0 ? "unit half=1/2 k;" : "unit half=");
            }
        }
        return x;
    }

    private static void refuse(PartText x) {
        int[] unknown = {0, -1, 99, 121, Integer.MIN_VALUE, Integer.MAX_VALUE};
        for (int i : unknown) {
            DUE.is("part", -1, x.part(i, 0));
            DUE.is("port", -1, x.port(i, 1, 0));
            DUE.is("port", -1, x.port(1, i, 0));
            DUE.is("runnable", -1, x.runnable(i, 1, 0));
            DUE.is("runnable", -1, x.runnable(1, i, 0));
            DUE.is("connector", -1, x.connector(i, 0));
            DUE.is("unit", -1, x.unit(i, 1, 0));
            DUE.is("unit", -1, x.unit(1, i, 1));
            DUE.is("compare", -1, x.compare(i));
            DUE.is("refused what of part", 1, x.part(1, i == 0 ? -1 : i) < 0 ? 1 : 0);
            DUE.is("refused what of port", 1, x.port(1, 1, i == 0 ? -1 : i) < 0 ? 1 : 0);
            DUE.is("refused what of runnable", 1, x.runnable(1, 1, i == 0 ? -1 : i) < 0 ? 1 : 0);
            DUE.is("refused what of connector", 1, x.connector(1, i == 0 ? -1 : i) < 0 ? 1 : 0);
        }
        x.at(-1);
        x.at(2000);
        if (x.check() == -3) {
            DUE.is("print", -3, x.print());
        }
    }

    private static void refusals() {
        DUE.sentence("REFUSALS change nothing");
        for (int steps = 0; steps <= 12; steps++) {
            PartText refused = after(steps);
            refuse(refused);
            DUE.is("after " + steps + " steps", told(after(steps)), told(refused));
        }
        PartText x = Due.reading(TEXT);
        DUE.is("two KINDS", -3, x.unit(1, 2, 0));
        DUE.is("after that", told(Due.reading(TEXT)), told(x));
    }

    private static void firstThatFits() {
        DUE.sentence("and answer, the first that fits: -1 an unknown number, -2 outside a range, -3 not in this state,"
            + " -4 no room.");
        PartText none = new PartText();
        PartText some = Due.reading(TEXT);
        for (int what : new int[] {-1, 6, 99}) {
            DUE.is("part with nothing in hand", -1, none.part(1, what));
            DUE.is("port with nothing in hand", -1, none.port(1, 1, what));
            DUE.is("runnable with nothing in hand", -1, none.runnable(1, 1, what));
            DUE.is("connector with nothing in hand", -1, none.connector(1, what));
            DUE.is("part", -1, some.part(3, what));
            DUE.is("port", -1, some.port(1, 3, what));
            DUE.is("port", -1, some.port(3, 1, what));
            DUE.is("runnable", -1, some.runnable(1, 2, what));
            DUE.is("runnable", -1, some.runnable(2, 1, what));
            DUE.is("connector", -1, some.connector(2, what));
            DUE.is("part", -2, some.part(1, what));
            DUE.is("port", -2, some.port(1, 1, what));
            DUE.is("runnable", -2, some.runnable(1, 1, what));
            DUE.is("connector", -2, some.connector(1, what));
        }
        DUE.is("unit with nothing in hand", -1, none.unit(1, 1, 0));
        DUE.is("an unknown unit and one of any KIND", -1, some.unit(1, 3, 0));
        DUE.is("units of two KINDS", -3, some.unit(1, 2, 0));
        DUE.is("compare with nothing in hand", -1, none.compare(1));
        DUE.is("check with nothing in hand", -3, none.check());
        DUE.is("print with nothing in hand", -3, none.print());
        DUE.is("print of more than 2000", -4, Due.reading("unit a=1/1 k;".repeat(106)).print());
    }

    /** Nothing of an edition that is not kept, or of a text with a fault, takes room from the next one. */
    private static void fullTextsOverAndOver() {
        String text = "part p{" + "run a reads b.c;".repeat(86) + "}";
        PartText x = Due.reading(text);
        int octets = 11 + 20 * 86;
        for (int time = 1; time <= 20; time++) {
            DUE.is("print, time " + time, octets, x.print());
            DUE.is("read, time " + time, 1, x.read());
            DUE.is("runs, time " + time, 86, x.part(1, 3));
            DUE.is("reads of the last one, time " + time, 1, x.runnable(1, 86, 3));
            DUE.is("compare, time " + time, 0, x.compare(1));
            x.print();
            x.sign('?');
            DUE.is("a fault, time " + time, -89, x.read());
        }
    }

    private static void manyCalls() {
        DUE.sentence("An object is used for at most 512 calls after it has been made");
        PartText x = new PartText();
        // 500 calls for the text, 12 for the rest.
        Due.type(x, "type t=1 to 2 nix;" + " ".repeat(1974) + "part p{}");
        DUE.is("call 501", 'r', x.at(1994));
        DUE.is("call 502", -1, x.at(2000));
        DUE.is("call 503", 1, x.read());
        for (int call = 504; call <= 510; call++) {
            DUE.is("call " + call, 102, x.check());
        }
        DUE.is("call 511", 33, x.print());
        DUE.is("call 512", 't', x.at(0));

        fullTextsOverAndOver();
        PartText reads = new PartText();
        for (int call = 1; call <= 510; call++) {
            DUE.is("read, call " + call, 0, reads.read());
        }
        DUE.is("call 511", 0, reads.compare(8));
        DUE.is("call 512", -1, reads.compare(9));
    }
}
