import java.math.BigInteger;
import java.util.ArrayList;
import java.util.Collections;
import java.util.HashSet;
import java.util.List;
import java.util.Set;
import java.util.regex.Matcher;
import java.util.regex.Pattern;

/**
 * The document once more, with lists and strings, for texts of any order: what PartText
 * answers is held against this in RandomTextsTest.
 */
final class PlainModel {
    private static final List<String> WORDS = List.of("unit", "type", "interface", "data", "part", "provides",
        "requires", "keeps", "run", "every", "on", "reads", "writes", "whole", "connect", "to");

    /** A fault, with its line. */
    private static final class Fault extends Exception {
        private static final long serialVersionUID = 1L;
        final int line;

        Fault(int line) {
            this.line = line;
        }
    }

    private record Token(String text, int line) {
    }

    /** A row as it is written, with the row of its block's beginning. */
    private static final class Row {
        final List<String> tokens = new ArrayList<>();
        Row block;

        String kind() {
            return tokens.get(0).equals("part") && block != null ? "inner" : tokens.get(0);
        }

        String written() {
            return String.join(" ", tokens);
        }

        String token(int k) {
            return tokens.get(k);
        }
    }

    private static final class Text {
        final List<Row> rows = new ArrayList<>();
        final List<String> names = new ArrayList<>();
    }

    private final StringBuilder typed = new StringBuilder();
    private final List<Text> kept = new ArrayList<>();
    private Text hand = null;

    // The text

    void sign(int c) {
        for (int shift = 24; shift >= 0; shift -= 8) {
            char octet = (char) (c >> shift & 255);
            if (octet != 0 && typed.length() < 2000) {
                typed.append(octet);
            }
        }
    }

    int at(int i) {
        return i >= 0 && i < typed.length() ? typed.charAt(i) : -1;
    }

    int read() {
        try {
            Text text = new Parser(typed.toString()).text();
            hand = text;
            if (kept.size() < 8) {
                kept.add(text);
            }
            return all("part", "whole").size();
        } catch (Fault fault) {
            return -fault.line;
        } finally {
            typed.setLength(0);
        }
    }

    int print() {
        if (hand == null) {
            return -3;
        }
        StringBuilder out = new StringBuilder();
        for (Row row : hand.rows) {
            out.append(row.written()).append('\n');
        }
        typed.setLength(0);
        typed.append(out.length() > 2000 ? "" : out);
        return out.length() > 2000 ? -4 : out.length();
    }

    int compare(int other) {
        if (other < 1 || other > kept.size()) {
            return -1;
        }
        Set<String> there = new HashSet<>();
        for (Row row : kept.get(other - 1).rows) {
            there.add(place(row));
        }
        int missing = 0;
        for (Row row : hand.rows) {
            missing += there.contains(place(row)) ? 0 : 1;
        }
        return missing;
    }

    private static String place(Row row) {
        return (row.block == null ? "" : row.block.written()) + "\n" + row.written();
    }

    // Questions

    private List<Row> all(String... kinds) {
        List<Row> found = new ArrayList<>();
        if (hand != null) {
            for (Row row : hand.rows) {
                if (List.of(kinds).contains(row.kind())) {
                    found.add(row);
                }
            }
        }
        return found;
    }

    private List<Row> of(Row block, String... kinds) {
        List<Row> found = all(kinds);
        found.removeIf(row -> row.block != block);
        return found;
    }

    private static <T> T nth(List<T> list, int i) {
        return i >= 1 && i <= list.size() ? list.get(i - 1) : null;
    }

    private static Row named(List<Row> rows, String name) {
        for (Row row : rows) {
            if (row.token(1).equals(name)) {
                return row;
            }
        }
        return null;
    }

    private int nameNumber(Row row) {
        return hand.names.indexOf(row.token(1)) + 1;
    }

    private List<Row> ports(Row part) {
        return part == null ? new ArrayList<>() : of(part, "provides", "requires");
    }

    private Row partNamed(String name) {
        return named(all("part", "whole"), name);
    }

    private Row interfaceOf(Row port) {
        return named(all("interface"), port.token(3));
    }

    int part(int i, int what) {
        Row row = nth(all("part", "whole"), i);
        if (row == null) {
            return -1;
        }
        int[] answers = {nameNumber(row), row.kind().equals("whole") ? 1 : 0, ports(row).size(), of(row, "run").size(),
            of(row, "keeps").size(), of(row, "inner").size()};
        return what < 0 || what >= answers.length ? -2 : answers[what];
    }

    int port(int part, int i, int what) {
        Row row = nth(ports(nth(all("part", "whole"), part)), i);
        if (row == null) {
            return -1;
        }
        int[] answers = {nameNumber(row), row.kind().equals("provides") ? 1 : 0,
            all("interface").indexOf(interfaceOf(row)) + 1};
        return what < 0 || what >= answers.length ? -2 : answers[what];
    }

    int runnable(int part, int i, int what) {
        Row block = nth(all("part", "whole"), part);
        Row row = block == null ? null : nth(of(block, "run"), i);
        if (row == null) {
            return -1;
        }
        int every = row.token(2).equals("every") ? Integer.parseInt(row.token(3)) : 0;
        int on = row.token(2).equals("on") ? ports(block).indexOf(named(ports(block), row.token(3))) + 1 : 0;
        int[] answers = {nameNumber(row), every, on, Collections.frequency(row.tokens, "reads"),
            Collections.frequency(row.tokens, "writes")};
        return what < 0 || what >= answers.length ? -2 : answers[what];
    }

    private Row inner(Row connect, int k) {
        return named(of(connect.block, "inner"), connect.token(k));
    }

    private Row partOf(Row inner) {
        return inner == null ? null : partNamed(inner.token(3));
    }

    private Row innerPort(Row connect, int k) {
        return named(ports(partOf(inner(connect, k))), connect.token(k + 2));
    }

    int connector(int i, int what) {
        Row row = nth(all("connect"), i);
        if (row == null) {
            return -1;
        }
        List<Row> inners = of(row.block, "inner");
        int[] answers = {all("part", "whole").indexOf(row.block) + 1, inners.indexOf(inner(row, 1)) + 1,
            ports(partOf(inner(row, 1))).indexOf(innerPort(row, 1)) + 1, inners.indexOf(inner(row, 5)) + 1,
            ports(partOf(inner(row, 5))).indexOf(innerPort(row, 5)) + 1};
        return what < 0 || what >= answers.length ? -2 : answers[what];
    }

    int unit(int from, int to, int side) {
        Row a = nth(all("unit"), from);
        Row b = nth(all("unit"), to);
        if (a == null || b == null) {
            return -1;
        }
        if (!a.token(6).equals(b.token(6))) {
            return -3;
        }
        int above = Integer.parseInt(a.token(3)) * Integer.parseInt(b.token(5));
        int below = Integer.parseInt(a.token(5)) * Integer.parseInt(b.token(3));
        int common = BigInteger.valueOf(above).gcd(BigInteger.valueOf(below)).intValue();
        return (side == 0 ? above : below) / common;
    }

    // Rules

    int check() {
        if (hand == null) {
            return -3;
        }
        for (int i = 0; i < hand.rows.size(); i++) {
            for (int rule = 1; rule <= 10; rule++) {
                if (breaks(hand.rows.get(i), rule)) {
                    return (i + 1) * 100 + rule;
                }
            }
        }
        return 0;
    }

    private boolean breaks(Row row, int rule) {
        switch (row.kind() + rule) {
            case "unit1", "type1", "interface1", "part1", "whole1":
                return named(of(null, "unit", "type", "interface", "part", "whole"), row.token(1)) != row;
            case "data1", "provides1", "requires1", "keeps1", "run1", "inner1":
                return named(of(row.block, "data", "provides", "requires", "keeps", "run", "inner"), row.token(1)) != row;
            case "type2":
                return unitOf(row) == null;
            case "data2", "keeps2":
                return typeOf(row) == null;
            case "provides2", "requires2":
                return interfaceOf(row) == null;
            case "inner2":
                return partOf(row) == null;
            case "run2":
                return uses(row).stream().anyMatch(use -> useMeansNothing(row, use));
            case "connect2":
                return endMeansNothing(row, 1) || endMeansNothing(row, 5);
            case "type3":
                return values(row)[0] > values(row)[1];
            case "run4":
                return !List.of("every", "on").contains(row.token(2));
            case "run5":
                return uses(row).stream().anyMatch(use -> useIsWrong(row, use));
            case "connect5":
                return isKind(innerPort(row, 1), "requires") || isKind(innerPort(row, 5), "provides");
            case "connect6", "connect7", "connect8":
                return data(row).stream().anyMatch(datum -> datumBreaks(row, datum, rule));
            case "connect9":
                return innerPort(row, 5) != null && of(row.block, "connect").stream()
                    .takeWhile(earlier -> earlier != row)
                    .anyMatch(earlier -> inner(earlier, 5) == inner(row, 5) && innerPort(earlier, 5) == innerPort(row, 5));
            case "inner10":
                return reaches(partOf(row), row.block, new HashSet<>());
            default:
                return false;
        }
    }

    private static boolean isKind(Row row, String kind) {
        return row != null && row.kind().equals(kind);
    }

    private Row typeOf(Row member) {
        return named(all("type"), member.token(3));
    }

    private Row unitOf(Row type) {
        return type == null ? null : named(all("unit"), type.token(type.tokens.size() - 2));
    }

    /** Both values of a type, with - and the number as two tokens. */
    private static long[] values(Row type) {
        String row = type.written().replace("- ", "-");
        String[] tokens = row.split(" ");
        return new long[] {Long.parseLong(tokens[3]), Long.parseLong(tokens[5])};
    }

    /** Each use as its word, port and datum. */
    private static List<String[]> uses(Row run) {
        List<String[]> found = new ArrayList<>();
        for (int k = 2; k < run.tokens.size(); k++) {
            if (List.of("on", "reads", "writes").contains(run.token(k))) {
                found.add(new String[] {run.token(k), run.token(k + 1), run.token(k + 3)});
            }
        }
        return found;
    }

    private boolean useMeansNothing(Row run, String[] use) {
        Row port = named(ports(run.block), use[1]);
        if (port == null) {
            return true;
        }
        Row type = interfaceOf(port);
        return type != null && named(of(type, "data"), use[2]) == null;
    }

    private boolean useIsWrong(Row run, String[] use) {
        return isKind(named(ports(run.block), use[1]), use[0].equals("writes") ? "requires" : "provides");
    }

    private boolean endMeansNothing(Row connect, int k) {
        Row inner = inner(connect, k);
        return inner == null || partOf(inner) != null && innerPort(connect, k) == null;
    }

    /** The data rows of the second port's interface, none if one of both interfaces means nothing. */
    private List<Row> data(Row connect) {
        Row first = innerPort(connect, 1);
        Row second = innerPort(connect, 5);
        if (first == null || second == null || interfaceOf(first) == null || interfaceOf(second) == null) {
            return List.of();
        }
        return of(interfaceOf(second), "data");
    }

    private boolean datumBreaks(Row connect, Row datum, int rule) {
        Row there = named(of(interfaceOf(innerPort(connect, 1)), "data"), datum.token(1));
        if (there == null || rule == 6) {
            return there == null && rule == 6;
        }
        Row from = unitOf(typeOf(there));
        Row to = unitOf(typeOf(datum));
        if (from == null || to == null) {
            return false;
        }
        if (rule == 7) {
            return !from.token(6).equals(to.token(6));
        }
        long up = Long.parseLong(from.token(3)) * Long.parseLong(to.token(5));
        long down = Long.parseLong(from.token(5)) * Long.parseLong(to.token(3));
        long[] inside = values(typeOf(there));
        long[] outside = values(typeOf(datum));
        return inside[0] * up < outside[0] * down || inside[1] * up > outside[1] * down;
    }

    /** Whether the block is the part, or is in it. */
    private boolean reaches(Row part, Row block, Set<Row> seen) {
        if (part == null || !seen.add(part)) {
            return false;
        }
        if (part == block) {
            return true;
        }
        for (Row inner : of(part, "inner")) {
            if (reaches(partOf(inner), block, seen)) {
                return true;
            }
        }
        return false;
    }

    /** By the grammar, one method for each of its rows. */
    private static final class Parser {
        private static final Pattern LONGEST = Pattern.compile("(?s)[a-z][a-z0-9]*|[0-9][a-z0-9]*|.");
        private static final Pattern TOKEN = Pattern.compile("[a-z][a-z0-9]{0,11}|[0-9]{1,6}|[{};:.=/-]");

        private final String source;
        private int place = 0;
        private int line = 1;
        private final Text text = new Text();
        private Token token;

        Parser(String source) {
            this.source = source;
        }

        Text text() throws Fault {
            next();
            while (!token.text.isEmpty()) {
                statement();
            }
            return text;
        }

        private void next() throws Fault {
            while (place < source.length() && " \t\r\n".indexOf(source.charAt(place)) >= 0) {
                line += source.charAt(place) == '\n' ? 1 : 0;
                place++;
            }
            String found = "";
            Matcher longest = LONGEST.matcher(source).region(place, source.length());
            if (longest.lookingAt()) {
                // Too long, a letter behind a number, or no token at all: told when it is looked at.
                found = TOKEN.matcher(longest.group()).matches() ? longest.group() : "?";
            }
            token = new Token(found, line);
            place += found.length();
        }

        private Fault fault() {
            return new Fault(token.line);
        }

        private Row begin(Row block) throws Fault {
            if (text.rows.size() == 120) {
                throw fault();
            }
            Row row = new Row();
            row.block = block;
            text.rows.add(row);
            return row;
        }

        private void take(Row row, String written) throws Fault {
            row.tokens.add(written);
            next();
        }

        private void fixed(Row row, String... due) throws Fault {
            for (String one : due) {
                if (!token.text.equals(one)) {
                    throw fault();
                }
                take(row, one);
            }
        }

        private void name(Row row) throws Fault {
            if (!token.text.matches("[a-z].*") || WORDS.contains(token.text)) {
                throw fault();
            }
            if (!text.names.contains(token.text)) {
                text.names.add(token.text);
            }
            take(row, token.text);
        }

        private int number() throws Fault {
            if (!token.text.matches("[0-9]+")) {
                throw fault();
            }
            return Integer.parseInt(token.text);
        }

        private void number(Row row, int least, int most) throws Fault {
            int number = number();
            if (number < least || number > most) {
                throw fault();
            }
            take(row, "" + number);
        }

        private void value(Row row) throws Fault {
            boolean minus = token.text.equals("-");
            if (minus) {
                next();
            }
            if (number() != 0 && minus) {
                row.tokens.add("-");
            }
            number(row, 0, 999999);
        }

        private void dotted(Row row) throws Fault {
            name(row);
            fixed(row, ".");
            name(row);
        }

        private void statement() throws Fault {
            Row row = begin(null);
            String word = token.text;
            if (!List.of("unit", "type", "interface", "part", "whole").contains(word)) {
                throw fault();
            }
            fixed(row, word);
            name(row);
            if (word.equals("unit")) {
                fixed(row, "=");
                number(row, 1, 9999);
                fixed(row, "/");
                number(row, 1, 9999);
                name(row);
                fixed(row, ";");
            } else if (word.equals("type")) {
                fixed(row, "=");
                value(row);
                fixed(row, "to");
                value(row);
                name(row);
                fixed(row, ";");
            } else {
                fixed(row, "{");
                while (!token.text.equals("}")) {
                    member(begin(row), word);
                }
                fixed(begin(row), "}");
            }
        }

        private void member(Row row, String block) throws Fault {
            String word = token.text;
            List<String> plain = block.equals("interface") ? List.of("data")
                : block.equals("part") ? List.of("provides", "requires", "keeps") : List.of("part");
            if (plain.contains(word)) {
                fixed(row, word);
                name(row);
                fixed(row, ":");
                name(row);
            } else if (word.equals("run") && block.equals("part")) {
                run(row);
            } else if (word.equals("connect") && block.equals("whole")) {
                fixed(row, "connect");
                dotted(row);
                fixed(row, "to");
                dotted(row);
            } else {
                throw fault();
            }
            fixed(row, ";");
        }

        private void run(Row row) throws Fault {
            fixed(row, "run");
            name(row);
            if (token.text.equals("every")) {
                fixed(row, "every");
                number(row, 1, 999999);
            } else if (token.text.equals("on")) {
                fixed(row, "on");
                dotted(row);
            }
            for (int i = 0; i < 8 && List.of("reads", "writes").contains(token.text); i++) {
                fixed(row, token.text);
                dotted(row);
            }
        }
    }
}
