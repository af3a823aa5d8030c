import java.util.ArrayList;
import java.util.Collections;
import java.util.List;
import java.util.Random;

/** Texts of all kinds, the same ones each time, held against PlainModel call by call. */
public final class RandomTextsTest {
    private static final int OBJECTS = 600;
    private static final int TEXTS = 11;

    private static final Due DUE = new Due();
    private static final Random RANDOM = new Random(20261115);
    private static final int[] BROKEN = new int[11];
    private static int faultless = 0;

    /** How seldom a name is one of another role, for the text in hand. */
    private static int slips = 30;

    public static void main(String[] args) {
        for (int i = 0; i < OBJECTS; i++) {
            tryObject();
        }
        // So that the texts are known to reach what they are made for.
        DUE.is("texts without a fault are enough", 1, faultless > OBJECTS * TEXTS / 2 ? 1 : 0);
        for (int rule = 0; rule < BROKEN.length; rule++) {
            DUE.is("rule " + rule + " is told often enough", 1, BROKEN[rule] > 10 ? 1 : 0);
        }
        DUE.end();
    }

    private static void tryObject() {
        PartText x = new PartText();
        PlainModel y = new PlainModel();
        for (int i = 0; i < TEXTS; i++) {
            String text = below(3) == 0 ? spoiled(text()) : text();
            DUE.about(text);
            type(x, y, text);
            tryRead(x, y);
            if (below(3) == 0) {
                DUE.is("print", y.print(), x.print());
                for (int k = 0; k < 5; k++) {
                    int place = below(k == 0 ? 2002 : 60) - 1;
                    DUE.is("at(" + place + ")", y.at(place), x.at(place));
                }
                tryRead(x, y);
            }
        }
    }

    private static void type(PartText x, PlainModel y, String text) {
        for (int i = 0; i < text.length(); i++) {
            int c = text.charAt(i) << 8 * below(4);
            x.sign(c);
            y.sign(c);
        }
    }

    private static void tryRead(PartText x, PlainModel y) {
        int parts = x.read();
        DUE.is("read", y.read(), parts);
        int broken = x.check();
        DUE.is("check", y.check(), broken);
        if (parts >= 0) {
            faultless++;
            BROKEN[broken % 100]++;
        }
        for (int k = 0; k < 12; k++) {
            int a = below(7);
            int b = below(5);
            int c = below(8) - 1;
            String call = "(" + a + ", " + b + ", " + c + ")";
            DUE.is("part" + call, y.part(a, c), x.part(a, c));
            DUE.is("port" + call, y.port(a, b, c), x.port(a, b, c));
            DUE.is("runnable" + call, y.runnable(a, b, c), x.runnable(a, b, c));
            DUE.is("connector" + call, y.connector(a, c), x.connector(a, c));
            DUE.is("unit" + call, y.unit(a, b, c), x.unit(a, b, c));
        }
        for (int other = 0; other <= 10; other++) {
            DUE.is("compare(" + other + ")", y.compare(other), x.compare(other));
        }
    }

    private static int below(int n) {
        return RANDOM.nextInt(n);
    }

    private static <T> T any(List<T> list) {
        return list.get(below(list.size()));
    }

    private static String any(String spaced) {
        return any(List.of(spaced.split(" ")));
    }

    /** One of the names, mostly. */
    private static String name(String spaced) {
        return any(below(slips) == 0 ? "m s km ms t u v f g h p q r w x a b c i o d e n abcdefghijkl z9" : spaced);
    }

    private static String text() {
        slips = any(List.of(4, 30, 200, 10000));
        List<String> statements = new ArrayList<>();
        statements.add("unit m=1/1 way;unit s=1/1 time;unit km=1000/1 way;unit ms=01/1000 time;");
        for (String type : "t u v".split(" ")) {
            int low = below(4) - 1;
            statements.add("type " + name(type) + "=" + low + " to " + (low + below(below(20) == 0 ? 3 : 5000) - below(2))
                + " " + name("m m s km ms") + ";");
        }
        for (String one : "f g h".split(" ")) {
            statements.add("interface " + name(one) + "{" + members("data", "d e", "t u v", below(3)) + "}");
        }
        for (String one : "p q".split(" ")) {
            statements.add(part(one));
        }
        for (String one : "w x".split(" ")) {
            statements.add(whole(one, one.equals("w") ? "p q x" : below(4) == 0 ? "p q w" : "p q"));
        }
        statements.removeIf(one -> below(slips * 3) == 0);
        if (below(2) == 0) {
            Collections.shuffle(statements, RANDOM);
        }
        return spaced(String.join("", statements));
    }

    /** Members with names in their order, so that few are given twice. */
    private static String members(String word, String names, String kinds, int count) {
        StringBuilder row = new StringBuilder();
        String[] given = names.split(" ");
        for (int i = 0; i < count && i < given.length; i++) {
            row.append(word).append(' ').append(name(given[i])).append(':').append(name(kinds)).append(';');
        }
        return row.toString();
    }

    private static String part(String given) {
        List<String> rows = new ArrayList<>();
        rows.add(members("requires", "i", "f g h", 1));
        rows.add(members("provides", "o", "f g h", 1));
        rows.add(members("keeps", "a b c", "t u v", below(3)));
        for (int i = below(3); i > 0; i--) {
            rows.add(run("r" + i));
        }
        if (below(2) == 0) {
            Collections.shuffle(rows, RANDOM);
        }
        return "part " + name(given) + "{" + String.join("", rows) + "}";
    }

    private static String run(String given) {
        StringBuilder row = new StringBuilder("run " + name(given));
        int trigger = below(12);
        if (trigger > 0) {
            row.append(trigger < 5 ? " on " + name("i i i i i i i o") + "." + name("d") : " every 0" + (1 + below(99)));
        }
        for (int i = below(below(20) == 0 ? 11 : 3); i > 0; i--) {
            row.append(below(2) == 0 ? " reads " + name("i i i i i i i o") : " writes " + name("o o o o o o o i"));
            row.append('.').append(name("d d d d e"));
        }
        return row + ";";
    }

    private static String whole(String given, String kinds) {
        List<String> rows = new ArrayList<>();
        rows.add(members("part", "a b c", kinds, 1 + below(3)));
        for (int i = below(4); i > 0; i--) {
            rows.add("connect " + name("a a b") + "." + name("o o o o o o i") + " to " + name("a a b c") + "."
                + name("i i i i i i o") + ";");
        }
        if (below(3) == 0) {
            Collections.shuffle(rows, RANDOM);
        }
        return "whole " + name(given) + "{" + String.join("", rows) + "}";
    }

    /** With blanks where there may be some. */
    private static String spaced(String text) {
        StringBuilder out = new StringBuilder();
        for (int i = 0; i < text.length(); i++) {
            boolean sign = "{};:.=/-".indexOf(text.charAt(i)) >= 0;
            if (sign && below(6) == 0) {
                out.append(any(List.of(" ", "\n", "\t", "\r\n")));
            }
            out.append(text.charAt(i));
            if (sign && below(6) == 0) {
                out.append(any(List.of(" ", "\n", "  ", "\r")));
            }
        }
        return out.toString();
    }

    /** With some octets taken out, put in or put for others, or with rows many times over. */
    private static String spoiled(String text) {
        StringBuilder out = new StringBuilder(text);
        for (int times = 1 + below(2); times > 0 && out.length() > 0; times--) {
            int place = below(out.length());
            int kind = below(5);
            if (kind == 0) {
                out.deleteCharAt(place);
            } else if (kind == 1) {
                out.insert(place, any(List.of("?", "\n", "x", "0", "-", ";", "}", " ", "00000", "\u00e9", "to", "A")));
            } else if (kind == 2) {
                out.setLength(place);
            } else if (kind == 3) {
                out.insert(0, "unit m=1/1 k;\n".repeat(below(125)));
            } else {
                out.setCharAt(place, (char) (1 + below(255)));
            }
        }
        return out.toString();
    }
}
