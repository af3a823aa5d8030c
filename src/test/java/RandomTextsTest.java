import java.util.ArrayList;
import java.util.Collections;
import java.util.List;
import java.util.Random;

/**
 * Texts of all kinds, the same ones each time, held against PlainModel call by call; no object is asked beyond its
 * 512th call, for what it answers then is free.
 */
public final class RandomTextsTest {
    private static final int OBJECTS = 3000;
    private static final int CALLS = 512;
    private static final int TEXT_LIMIT = 2000;
    private static final int EDITIONS = 10;

    private static final Due DUE = new Due();
    private static final Random RANDOM = new Random(20261115);
    private static final int[] BROKEN = new int[11];
    private static int texts = 0;
    private static int faultless = 0;
    private static int beyondKept = 0;

    /** How seldom a name is one of another role, for the text in hand. */
    private static int slips = 30;

    private final PartText x = new PartText();
    private final PlainModel y = new PlainModel();
    private int calls = 0;
    private int editions = 0;

    public static void main(String[] args) {
        for (int i = 0; i < OBJECTS; i++) {
            new RandomTextsTest().tryTexts(i % 2 == 0);
        }
        // So that the texts are known to reach what they are made for.
        DUE.is("texts are enough", 1, texts > OBJECTS * 2 ? 1 : 0);
        DUE.is("texts without a fault are enough", 1, faultless > texts / 2 ? 1 : 0);
        DUE.is("objects with more editions than are kept are enough", 1, beyondKept > 100 ? 1 : 0);
        for (int rule = 0; rule < BROKEN.length; rule++) {
            DUE.is("rule " + rule + " is told often enough", 1, BROKEN[rule] > 10 ? 1 : 0);
        }
        DUE.end();
    }

    /** Short texts leave calls for more editions, long ones for more of what rules look at. */
    private void tryTexts(boolean small) {
        String text = anyText(small);
        while (calls + typingCalls(text) + EDITIONS + 2 <= CALLS) {
            texts++;
            DUE.about(text);
            type(text);
            tryRead(small);
            if (below(3) == 0 && calls + EDITIONS + 8 <= CALLS) {
                tryPrint();
                tryRead(small);
            }
            text = anyText(small);
        }
        beyondKept += editions > 8 ? 1 : 0;
    }

    private static String anyText(boolean small) {
        String whole = small ? few() : text();
        String text = below(3) == 0 ? spoiled(whole) : whole;
        return text.substring(0, Math.min(text.length(), TEXT_LIMIT - EDITIONS * 4));
    }

    private static int typingCalls(String text) {
        return text.length() / 4 + 1;
    }

    /** Four octets to a call, with nulls before the first ones. */
    private void type(String text) {
        int nulls = 4 - text.length() % 4;
        for (int i = -nulls; i < text.length(); i += 4) {
            int c = 0;
            for (int k = i; k < i + 4; k++) {
                c = c << 8 | (k < 0 ? 0 : text.charAt(k));
            }
            x.sign(c);
            y.sign(c);
            calls++;
        }
    }

    private void is(String call, int want, int got) {
        calls++;
        DUE.is(call, want, got);
    }

    private void tryPrint() {
        is("print", y.print(), x.print());
        for (int k = 0; k < 5; k++) {
            int place = below(k == 0 ? 2002 : 60) - 1;
            is("at(" + place + ")", y.at(place), x.at(place));
        }
    }

    private void tryRead(boolean small) {
        int parts = x.read();
        is("read", y.read(), parts);
        int broken = x.check();
        is("check", y.check(), broken);
        if (parts >= 0) {
            faultless++;
            editions++;
            BROKEN[broken % 100]++;
        }
        for (int k = small ? 1 : 12; k > 0 && calls + EDITIONS + 5 <= CALLS; k--) {
            tryQuestions(below(7), below(5), below(8) - 1);
        }
        for (int other = small ? below(EDITIONS) : 0; other <= EDITIONS && calls < CALLS; other++) {
            is("compare(" + other + ")", y.compare(other), x.compare(other));
        }
    }

    private void tryQuestions(int a, int b, int c) {
        String call = "(" + a + ", " + b + ", " + c + ")";
        is("part" + call, y.part(a, c), x.part(a, c));
        is("port" + call, y.port(a, b, c), x.port(a, b, c));
        is("runnable" + call, y.runnable(a, b, c), x.runnable(a, b, c));
        is("connector" + call, y.connector(a, c), x.connector(a, c));
        is("unit" + call, y.unit(a, b, c), x.unit(a, b, c));
    }

    private static int below(int n) {
        return RANDOM.nextInt(n);
    }

    private static <T> T any(List<T> list) {
        return list.get(below(list.size()));
    }

    private static String any(String spaced) {
        return any(List.of(spaced.split(" ")));
    }

    /** One of the names, mostly. */
    private static String name(String spaced) {
        return any(below(slips) == 0 ? "m s km ms t u v f g h p q r w x a b c i o d e n abcdefghijkl z9" : spaced);
    }

    private static String text() {
        slips = any(List.of(4, 30, 200, 10000));
        List<String> statements = new ArrayList<>();
        statements.add("unit m=1/1 way;unit s=1/1 time;unit km=1000/1 way;unit ms=01/1000 time;");
        for (String type : "t u v".split(" ")) {
            int low = below(4) - 1;
            statements.add("type " + name(type) + "=" + low + " to " + (low + below(below(20) == 0 ? 3 : 5000) - below(2))
                + " " + name("m m s km ms") + ";");
        }
        for (String one : "f g h".split(" ")) {
            statements.add("interface " + name(one) + "{" + members("data", "d e", "t u v", below(3)) + "}");
        }
        for (String one : "p q".split(" ")) {
            statements.add(part(one));
        }
        for (String one : "w x".split(" ")) {
            statements.add(whole(one, one.equals("w") ? "p q x" : below(4) == 0 ? "p q w" : "p q"));
        }
        statements.removeIf(one -> below(slips * 3) == 0);
        if (below(2) == 0) {
            Collections.shuffle(statements, RANDOM);
        }
        return spaced(String.join("", statements));
    }

    /** Some of a text's statements, from a few names, so that editions have rows of one another. */
    private static String few() {
        slips = any(List.of(4, 30, 10000));
        StringBuilder statements = new StringBuilder();
        for (int i = below(4); i > 0; i--) {
            statements.append(any(List.of("unit m=1/1 way;",
                "type " + name("t") + "=" + below(3) + " to 2 " + name("m") + ";",
                "interface f{" + members("data", "d e", "t", below(3)) + "}",
                "part p{" + members("keeps", "a b", "t", below(3)) + "}",
                "whole w{" + members("part", "a b", "p w", below(3)) + "}")));
        }
        return spaced(statements.toString());
    }

    /** Members with names in their order, so that few are given twice. */
    private static String members(String word, String names, String kinds, int count) {
        StringBuilder row = new StringBuilder();
        String[] given = names.split(" ");
        for (int i = 0; i < count && i < given.length; i++) {
            row.append(word).append(' ').append(name(given[i])).append(':').append(name(kinds)).append(';');
        }
        return row.toString();
    }

    private static String part(String given) {
        List<String> rows = new ArrayList<>();
        rows.add(members("requires", "i", "f g h", 1));
        rows.add(members("provides", "o", "f g h", 1));
        rows.add(members("keeps", "a b c", "t u v", below(3)));
        for (int i = below(3); i > 0; i--) {
            rows.add(run("r" + i));
        }
        if (below(2) == 0) {
            Collections.shuffle(rows, RANDOM);
        }
        return "part " + name(given) + "{" + String.join("", rows) + "}";
    }

    private static String run(String given) {
        StringBuilder row = new StringBuilder("run " + name(given));
        int trigger = below(12);
        if (trigger > 0) {
            row.append(trigger < 5 ? " on " + name("i i i i i i i o") + "." + name("d") : " every 0" + (1 + below(99)));
        }
        for (int i = below(below(20) == 0 ? 11 : 3); i > 0; i--) {
            row.append(below(2) == 0 ? " reads " + name("i i i i i i i o") : " writes " + name("o o o o o o o i"));
            row.append('.').append(name("d d d d e"));
        }
        return row + ";";
    }

    private static String whole(String given, String kinds) {
        List<String> rows = new ArrayList<>();
        rows.add(members("part", "a b c", kinds, 1 + below(3)));
        for (int i = below(4); i > 0; i--) {
            rows.add("connect " + name("a a b") + "." + name("o o o o o o i") + " to " + name("a a b c") + "."
                + name("i i i i i i o") + ";");
        }
        if (below(3) == 0) {
            Collections.shuffle(rows, RANDOM);
        }
        return "whole " + name(given) + "{" + String.join("", rows) + "}";
    }

    /** With blanks where there may be some. */
    private static String spaced(String text) {
        StringBuilder out = new StringBuilder();
        for (int i = 0; i < text.length(); i++) {
            boolean sign = "{};:.=/-".indexOf(text.charAt(i)) >= 0;
            if (sign && below(6) == 0) {
                out.append(any(List.of(" ", "\n", "\t", "\r\n")));
            }
            out.append(text.charAt(i));
            if (sign && below(6) == 0) {
                out.append(any(List.of(" ", "\n", "  ", "\r")));
            }
        }
        return out.toString();
    }

    /** With some octets taken out, put in or put for others, or with rows many times over. */
    private static String spoiled(String text) {
        StringBuilder out = new StringBuilder(text);
        for (int times = 1 + below(2); times > 0 && out.length() > 0; times--) {
            int place = below(out.length());
            int kind = below(5);
            if (kind == 0) {
                out.deleteCharAt(place);
            } else if (kind == 1) {
                out.insert(place, any(List.of("?", "\n", "x", "0", "-", ";", "}", " ", "00000", "\u00e9", "to", "A")));
            } else if (kind == 2) {
                out.setLength(place);
            } else if (kind == 3) {
                out.insert(0, "unit m=1/1 k;\n".repeat(below(125)));
            } else {
                out.setCharAt(place, (char) (1 + below(255)));
            }
        }
        return out.toString();
    }
}
