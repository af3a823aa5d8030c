/**
 * Texts of components: read row by row, looked at by rules, written in one form, compared with
 * editions of before. The document's promises say what each public method answers.
 */
public final class PartText {
    private static final int TEXT_LIMIT = 2000;
    private static final int ROW_LIMIT = 120;
    private static final int KEPT_LIMIT = 8;
    private static final int NAME_LENGTH = 12;
    private static final int NUMBER_LENGTH = 6;
    private static final int ACCESS_LIMIT = 8;
    private static final int RATIO_LIMIT = 9999;
    private static final int NUMBER_LIMIT = 999999;

    private static final int UNKNOWN = -1;
    private static final int OUTSIDE = -2;
    private static final int NOT_NOW = -3;
    private static final int NO_ROOM = -4;

    private static final int LINE_FEED = 10;

    /** A word's place in this row is the number of its bit below. */
    private static final String WORDS =
        "unit type interface data part provides requires keeps run every on reads writes whole connect to";
    private static final int WORD_COUNT = 16;
    private static final String SIGNS = "{};:.=/-";

    // Bits, so that one number can stand for several words or several kinds of rows.
    private static final int UNIT = 1;
    private static final int TYPE = 1 << 1;
    private static final int INTERFACE = 1 << 2;
    private static final int DATA = 1 << 3;
    private static final int PART = 1 << 4;
    private static final int PROVIDES = 1 << 5;
    private static final int REQUIRES = 1 << 6;
    private static final int KEEPS = 1 << 7;
    private static final int RUN = 1 << 8;
    private static final int EVERY = 1 << 9;
    private static final int ON = 1 << 10;
    private static final int READS = 1 << 11;
    private static final int WRITES = 1 << 12;
    private static final int WHOLE = 1 << 13;
    private static final int CONNECT = 1 << 14;
    private static final int TO = 1 << 15;
    /** Kinds of rows that no word of their own begins. */
    private static final int INNER = 1 << 16;
    private static final int CLOSE = 1 << 17;

    private static final int PARTS = PART | WHOLE;
    private static final int PORTS = PROVIDES | REQUIRES;
    private static final int BLOCKS = INTERFACE | PARTS;
    private static final int STATEMENTS = UNIT | TYPE | BLOCKS;
    private static final int NAMED_MEMBERS = DATA | PORTS | KEEPS | RUN | INNER;
    private static final int ACCESSES = READS | WRITES;
    private static final int USES = ON | ACCESSES;

    /** What a token is; the last two are what stands where there is none. */
    private static final int WORD = 1;
    private static final int NAME = 2;
    private static final int NUMBER = 3;
    private static final int SIGN = 4;
    private static final int BAD = 5;
    private static final int TEXT_END = 6;

    /** Blocks are told by the row that begins them. */
    private static final int NO_BLOCK = 0;
    private static final int ANY_BLOCK = -1;

    // Where in a row its tokens stand.
    private static final int GIVEN = 1;
    private static final int MEMBER_OF = 3;
    private static final int FIRST_NUMBER = 3;
    private static final int SECOND_NUMBER = 5;
    private static final int LAST_NAME = 6;
    private static final int TRIGGER = 2;
    private static final int FIRST_INNER = 1;
    private static final int SECOND_INNER = 5;

    private final Octets text;
    private final Reader reader;
    private final Writer writer;
    private final Rules rules;
    /** The kept editions, and two more: one may be in hand while the other is read into. */
    private final Edition[] slots;
    private int kept;
    private int handSlot;

    public PartText() {
        Words words = new Words();
        text = new Octets();
        reader = new Reader(new Scanner(text, words));
        writer = new Writer(text, words);
        rules = new Rules();
        slots = new Edition[KEPT_LIMIT + 2];
        kept = 0;
        handSlot = -1;
    }

    public void sign(int c) {
        for (int shift = 24; shift >= 0; shift -= 8) {
            int octet = (c >>> shift) & 255;
            if (octet != 0) {
                text.add(octet);
            }
        }
    }

    public int read() {
        int slot = freeSlot();
        Edition edition = editionIn(slot);
        if (edition == null) {
            return NO_ROOM;
        }
        boolean faultless = reader.fill(edition);
        text.clear();
        if (!faultless) {
            return -reader.faultLine();
        }
        edition.resolve();
        handSlot = slot;
        if (kept < KEPT_LIMIT) {
            kept++;
        }
        return edition.count(PARTS, NO_BLOCK);
    }

    public int part(int i, int what) {
        Edition edition = inHand();
        int row = partRow(edition, i);
        if (edition == null || row == 0) {
            return UNKNOWN;
        }
        switch (what) {
            case 0:
                return edition.value(row, GIVEN);
            case 1:
                return edition.kind(row) == WHOLE ? 1 : 0;
            case 2:
                return edition.count(PORTS, row);
            case 3:
                return edition.count(RUN, row);
            case 4:
                return edition.count(KEEPS, row);
            case 5:
                return edition.count(INNER, row);
            default:
                return OUTSIDE;
        }
    }

    public int port(int part, int i, int what) {
        Edition edition = inHand();
        int row = memberRow(edition, part, PORTS, i);
        if (edition == null || row == 0) {
            return UNKNOWN;
        }
        switch (what) {
            case 0:
                return edition.value(row, GIVEN);
            case 1:
                return edition.kind(row) == PROVIDES ? 1 : 0;
            case 2:
                return edition.numberOf(INTERFACE, NO_BLOCK, edition.target(row));
            default:
                return OUTSIDE;
        }
    }

    public int runnable(int part, int i, int what) {
        Edition edition = inHand();
        int row = memberRow(edition, part, RUN, i);
        if (edition == null || row == 0) {
            return UNKNOWN;
        }
        switch (what) {
            case 0:
                return edition.value(row, GIVEN);
            case 1:
                return edition.word(row, TRIGGER) == EVERY ? edition.value(row, TRIGGER + 1) : 0;
            case 2:
                return triggerPort(edition, row);
            case 3:
                return edition.countWord(row, READS);
            case 4:
                return edition.countWord(row, WRITES);
            default:
                return OUTSIDE;
        }
    }

    public int connector(int i, int what) {
        Edition edition = inHand();
        int row = edition == null ? 0 : edition.nth(CONNECT, ANY_BLOCK, i);
        if (edition == null || row == 0) {
            return UNKNOWN;
        }
        switch (what) {
            case 0:
                return edition.numberOf(PARTS, NO_BLOCK, edition.block(row));
            case 1:
                return innerNumber(edition, row, FIRST_INNER);
            case 2:
                return innerPortNumber(edition, row, FIRST_INNER);
            case 3:
                return innerNumber(edition, row, SECOND_INNER);
            case 4:
                return innerPortNumber(edition, row, SECOND_INNER);
            default:
                return OUTSIDE;
        }
    }

    public int check() {
        Edition edition = inHand();
        return edition == null ? NOT_NOW : rules.firstBroken(edition);
    }

    public int unit(int from, int to, int side) {
        Edition edition = inHand();
        if (edition == null) {
            return UNKNOWN;
        }
        int fromRow = edition.nth(UNIT, NO_BLOCK, from);
        int toRow = edition.nth(UNIT, NO_BLOCK, to);
        if (fromRow == 0 || toRow == 0) {
            return UNKNOWN;
        }
        if (edition.value(fromRow, LAST_NAME) != edition.value(toRow, LAST_NAME)) {
            return NOT_NOW;
        }
        int above = edition.value(fromRow, FIRST_NUMBER) * edition.value(toRow, SECOND_NUMBER);
        int below = edition.value(fromRow, SECOND_NUMBER) * edition.value(toRow, FIRST_NUMBER);
        int divisor = commonDivisor(above, below);
        return divisor == 0 ? NOT_NOW : (side == 0 ? above : below) / divisor;
    }

    public int print() {
        Edition edition = inHand();
        if (edition == null) {
            return NOT_NOW;
        }
        writer.write(edition);
        if (text.isOverfull()) {
            text.clear();
            return NO_ROOM;
        }
        return text.length();
    }

    public int at(int i) {
        return text.octet(i);
    }

    public int compare(int other) {
        Edition edition = inHand();
        if (edition == null || other < 1 || other > kept || other > slots.length) {
            return UNKNOWN;
        }
        Edition before = slots[other - 1];
        return before == null ? UNKNOWN : edition.countMissingIn(before);
    }

    /** Never the slot in hand, so that a text with a fault leaves what is in hand as it is. */
    private int freeSlot() {
        if (kept < KEPT_LIMIT) {
            return kept;
        }
        return handSlot == KEPT_LIMIT ? KEPT_LIMIT + 1 : KEPT_LIMIT;
    }

    /** Made when it is first read into, for most objects read few texts. */
    private Edition editionIn(int slot) {
        if (slot < 0 || slot >= slots.length) {
            return null;
        }
        if (slots[slot] == null) {
            slots[slot] = new Edition();
        }
        return slots[slot];
    }

    private Edition inHand() {
        return handSlot < 0 || handSlot >= slots.length ? null : slots[handSlot];
    }

    private static int partRow(Edition edition, int i) {
        return edition == null ? 0 : edition.nth(PARTS, NO_BLOCK, i);
    }

    private static int memberRow(Edition edition, int part, int kinds, int i) {
        int block = partRow(edition, part);
        return edition == null || block == 0 ? 0 : edition.nth(kinds, block, i);
    }

    private static int triggerPort(Edition edition, int row) {
        if (edition.word(row, TRIGGER) != ON) {
            return 0;
        }
        return edition.numberOf(PORTS, edition.block(row), edition.usedPort(row, TRIGGER));
    }

    private static int innerNumber(Edition edition, int row, int k) {
        return edition.numberOf(INNER, edition.block(row), edition.inner(row, k));
    }

    private static int innerPortNumber(Edition edition, int row, int k) {
        int portRow = edition.innerPort(row, k, edition.inner(row, k));
        return edition.numberOf(PORTS, edition.block(portRow), portRow);
    }

    private static int commonDivisor(int a, int b) {
        int larger = a;
        int smaller = b;
        // Each second step at least halves the numbers, and theirs have 27 bits.
        for (int step = 0; step < 64 && smaller > 0; step++) {
            int rest = larger % smaller;
            larger = smaller;
            smaller = rest;
        }
        return larger;
    }

    /** The text that is typed or written. */
    private static final class Octets {
        private final int[] octets;
        private int length;
        private boolean overfull;

        Octets() {
            octets = new int[TEXT_LIMIT];
            length = 0;
            overfull = false;
        }

        void clear() {
            length = 0;
            overfull = false;
        }

        void add(int octet) {
            if (length >= octets.length) {
                overfull = true;
                return;
            }
            octets[length] = octet;
            length++;
        }

        /** -1 where there is none, which is no octet. */
        int octet(int i) {
            return i < 0 || i >= length || i >= octets.length ? -1 : octets[i];
        }

        int length() {
            return length;
        }

        boolean isOverfull() {
            return overfull;
        }
    }

    /**
     * The words, and how names are held: a name is one number to the base 37, its first letter
     * lowest, so that names of several editions are compared without their letters.
     */
    private static final class Words {
        private static final int BASE = 37;

        private final long[] names;

        Words() {
            names = new long[WORD_COUNT];
            int word = 0;
            long weight = 1;
            for (int i = 0; i < WORDS.length(); i++) {
                int code = codeOf(WORDS.charAt(i));
                if (code == 0) {
                    word++;
                    weight = 1;
                } else if (word < names.length) {
                    names[word] += code * weight;
                    weight *= BASE;
                }
            }
        }

        /** 0 for what stands in no name. */
        static int codeOf(int octet) {
            if (isDigit(octet)) {
                return octet - '0' + 1;
            }
            return isLetter(octet) ? octet - 'a' + 11 : 0;
        }

        static boolean isDigit(int octet) {
            return octet >= '0' && octet <= '9';
        }

        static boolean isLetter(int octet) {
            return octet >= 'a' && octet <= 'z';
        }

        static int octetOf(int code) {
            return code <= 10 ? code - 1 + '0' : code - 11 + 'a';
        }

        /** 0 for a name that is no word. */
        int bitOf(long name) {
            for (int i = 0; i < names.length; i++) {
                if (names[i] == name) {
                    return 1 << i;
                }
            }
            return 0;
        }

        long nameOf(int bit) {
            for (int i = 0; i < names.length; i++) {
                if (1 << i == bit) {
                    return names[i];
                }
            }
            return 0;
        }
    }

    /** One token of the text at a time, with the line on which it stands. */
    private static final class Scanner {
        private final Octets text;
        private final Words words;
        private int place;
        private int line;
        private int sort;
        private int value;
        private long name;

        Scanner(Octets text, Words words) {
            this.text = text;
            this.words = words;
            place = 0;
            line = 1;
            sort = TEXT_END;
            value = 0;
            name = 0;
        }

        void restart() {
            place = 0;
            line = 1;
        }

        int line() {
            return line;
        }

        int sort() {
            return sort;
        }

        /** A word's bit, a number's value or a sign's octet. */
        int value() {
            return value;
        }

        long name() {
            return name;
        }

        boolean isWordOf(int bits) {
            return sort == WORD && (value & bits) != 0;
        }

        boolean isSignOf(int octet) {
            return sort == SIGN && value == octet;
        }

        boolean isNumberWithin(int least, int most) {
            return sort == NUMBER && value >= least && value <= most;
        }

        void advance() {
            skipBlanks();
            int octet = text.octet(place);
            if (octet < 0) {
                sort = TEXT_END;
            } else if (Words.isLetter(octet)) {
                scanName();
            } else if (Words.isDigit(octet)) {
                scanNumber();
            } else {
                value = octet;
                place++;
                sort = SIGNS.indexOf((char) octet) >= 0 ? SIGN : BAD;
            }
        }

        private void skipBlanks() {
            while (place < text.length() && isBlank(text.octet(place))) {
                if (text.octet(place) == LINE_FEED) {
                    line++;
                }
                place++;
            }
        }

        private void scanName() {
            name = 0;
            long weight = 1;
            int code = Words.codeOf(text.octet(place));
            for (int length = 0; length < NAME_LENGTH && code > 0; length++) {
                name += code * weight;
                weight *= Words.BASE;
                place++;
                code = Words.codeOf(text.octet(place));
            }
            value = words.bitOf(name);
            if (code > 0) {
                sort = BAD;
            } else {
                sort = value == 0 ? NAME : WORD;
            }
        }

        private void scanNumber() {
            value = 0;
            for (int length = 0; length < NUMBER_LENGTH && Words.isDigit(text.octet(place)); length++) {
                value = value * 10 + text.octet(place) - '0';
                place++;
            }
            // A digit too many is refused by the same test as a letter right behind.
            sort = Words.codeOf(text.octet(place)) > 0 ? BAD : NUMBER;
        }

        private static boolean isBlank(int octet) {
            return octet == 9 || octet == LINE_FEED || octet == 13 || octet == 32;
        }
    }

    /**
     * Fills an edition with the rows of the text, up to the first fault. What is due next stands
     * in a form, a letter or sign for each token: N a name, Q a unit's number, Z a number above 0,
     * V a value, T the word to, R what follows a run's name, A what follows its trigger.
     */
    private static final class Reader {
        private final Scanner scanner;
        private int block;
        private String form;
        private int step;
        private int accesses;
        private boolean minus;

        Reader(Scanner scanner) {
            this.scanner = scanner;
            block = NO_BLOCK;
            form = "";
            step = 0;
            accesses = 0;
            minus = false;
        }

        /** Whether the text has no fault. */
        boolean fill(Edition edition) {
            edition.clear();
            scanner.restart();
            block = NO_BLOCK;
            minus = false;
            follow("");
            for (int token = 0; token <= TEXT_LIMIT; token++) {
                scanner.advance();
                if (scanner.sort() == TEXT_END) {
                    return block == NO_BLOCK && isRowOver();
                }
                boolean goesOn = isRowOver() ? beginRow(edition) : takeStep(edition);
                if (!goesOn) {
                    return false;
                }
            }
            return false;
        }

        /** The token that was looked at last is the one with which no text goes on. */
        int faultLine() {
            return scanner.line();
        }

        private boolean isRowOver() {
            return step >= form.length();
        }

        private void follow(String due) {
            form = due;
            step = 0;
        }

        private boolean beginRow(Edition edition) {
            if (edition.rowCount() >= ROW_LIMIT) {
                return false;
            }
            if (block != NO_BLOCK && scanner.isSignOf('}')) {
                edition.addRow(CLOSE, block);
                block = NO_BLOCK;
                return take(edition, '}');
            }
            if (!scanner.isWordOf(wordsIn(edition.kind(block)))) {
                return false;
            }
            int word = scanner.value();
            int kind = word == PART && block != NO_BLOCK ? INNER : word;
            edition.addRow(kind, block);
            if ((kind & BLOCKS) != 0) {
                block = edition.rowCount();
            }
            accesses = 0;
            follow(formOf(kind));
            return take(edition, word);
        }

        private static int wordsIn(int blockKind) {
            switch (blockKind) {
                case INTERFACE:
                    return DATA;
                case PART:
                    return PORTS | KEEPS | RUN;
                case WHOLE:
                    return PART | CONNECT;
                default:
                    return STATEMENTS;
            }
        }

        private static String formOf(int kind) {
            switch (kind) {
                case UNIT:
                    return "N=Q/QN;";
                case TYPE:
                    return "N=VTVN;";
                case INTERFACE:
                case PART:
                case WHOLE:
                    return "N{";
                case RUN:
                    return "NR";
                case CONNECT:
                    return "N.NTN.N;";
                default:
                    return "N:N;";
            }
        }

        private boolean takeStep(Edition edition) {
            int due = step < form.length() ? form.charAt(step) : ';';
            step++;
            switch (due) {
                case 'N':
                    return scanner.sort() == NAME && take(edition, edition.nameNumber(scanner.name()));
                case 'Q':
                    return scanner.isNumberWithin(1, RATIO_LIMIT) && take(edition, scanner.value());
                case 'Z':
                    return scanner.isNumberWithin(1, NUMBER_LIMIT) && take(edition, scanner.value());
                case 'V':
                    return takeValue(edition);
                case 'T':
                    return scanner.isWordOf(TO) && take(edition, TO);
                case 'R':
                    return takeTrigger(edition);
                case 'A':
                    return takeAccess(edition);
                default:
                    return scanner.isSignOf(due) && take(edition, due);
            }
        }

        /** The minus goes into the number, so that - 0 is the same value as 0. */
        private boolean takeValue(Edition edition) {
            if (!minus && scanner.isSignOf('-')) {
                minus = true;
                step--;
                return true;
            }
            int value = minus ? -scanner.value() : scanner.value();
            minus = false;
            return scanner.sort() == NUMBER && take(edition, value);
        }

        private boolean takeTrigger(Edition edition) {
            if (scanner.isWordOf(EVERY)) {
                follow("ZA");
                return take(edition, EVERY);
            }
            if (scanner.isWordOf(ON)) {
                follow("N.NA");
                return take(edition, ON);
            }
            return takeAccess(edition);
        }

        private boolean takeAccess(Edition edition) {
            if (accesses < ACCESS_LIMIT && scanner.isWordOf(ACCESSES)) {
                accesses++;
                follow("N.NA");
                return take(edition, scanner.value());
            }
            return scanner.isSignOf(';') && take(edition, ';');
        }

        /** Answers true, so that it can stand behind the test of the token that it takes. */
        private boolean take(Edition edition, int value) {
            edition.addToken(scanner.sort(), value);
            return true;
        }
    }

    /** The rows of a text that was read, from 1 on, as tokens; row 0 stands for nothing. */
    private static final class Edition {
        private static final int NAME_LIMIT = TEXT_LIMIT / 2;

        private final byte[] sorts;
        private final int[] values;
        private int tokenCount;
        private final long[] names;
        private int nameCount;
        private final int[] kinds;
        private final int[] blocks;
        private final int[] starts;
        private final int[] lengths;
        private final int[] targets;
        private int rowCount;

        Edition() {
            sorts = new byte[TEXT_LIMIT];
            values = new int[TEXT_LIMIT];
            tokenCount = 0;
            names = new long[NAME_LIMIT];
            nameCount = 0;
            kinds = new int[ROW_LIMIT + 1];
            blocks = new int[ROW_LIMIT + 1];
            starts = new int[ROW_LIMIT + 1];
            lengths = new int[ROW_LIMIT + 1];
            targets = new int[ROW_LIMIT + 1];
            rowCount = 0;
        }

        void clear() {
            tokenCount = 0;
            nameCount = 0;
            rowCount = 0;
        }

        void addRow(int kind, int block) {
            if (rowCount >= ROW_LIMIT) {
                return;
            }
            rowCount++;
            kinds[rowCount] = kind;
            blocks[rowCount] = block;
            starts[rowCount] = tokenCount;
            lengths[rowCount] = 0;
            targets[rowCount] = 0;
        }

        void addToken(int sort, int value) {
            if (rowCount == 0 || tokenCount >= TEXT_LIMIT) {
                return;
            }
            sorts[tokenCount] = (byte) sort;
            values[tokenCount] = value;
            tokenCount++;
            lengths[rowCount]++;
        }

        /** A name's number, a new one for a name that stands here first. */
        int nameNumber(long name) {
            for (int i = 0; i < nameCount; i++) {
                if (names[i] == name) {
                    return i + 1;
                }
            }
            if (nameCount >= NAME_LIMIT) {
                return 0;
            }
            names[nameCount] = name;
            nameCount++;
            return nameCount;
        }

        long nameOf(int number) {
            return number < 1 || number > nameCount ? 0 : names[number - 1];
        }

        /** Last of all, for a name may mean what stands further on. */
        void resolve() {
            for (int row = 1; row <= rowCount; row++) {
                int kind = kinds[row];
                if (kind == TYPE) {
                    targets[row] = meant(UNIT, NO_BLOCK, value(row, LAST_NAME));
                } else if (kind == DATA || kind == KEEPS) {
                    targets[row] = meant(TYPE, NO_BLOCK, value(row, MEMBER_OF));
                } else if ((kind & PORTS) != 0) {
                    targets[row] = meant(INTERFACE, NO_BLOCK, value(row, MEMBER_OF));
                } else if (kind == INNER) {
                    targets[row] = meant(PARTS, NO_BLOCK, value(row, MEMBER_OF));
                }
            }
        }

        int rowCount() {
            return rowCount;
        }

        int kind(int row) {
            return row < 1 || row > rowCount ? 0 : kinds[row];
        }

        int block(int row) {
            return row < 1 || row > rowCount ? NO_BLOCK : blocks[row];
        }

        int length(int row) {
            return row < 1 || row > rowCount ? 0 : lengths[row];
        }

        /** The row that the last name of a type, or the second one of a member, means. */
        int target(int row) {
            return row < 1 || row > rowCount ? 0 : targets[row];
        }

        int sort(int row, int k) {
            if (row < 1 || row > rowCount || k < 0 || k >= lengths[row]) {
                return TEXT_END;
            }
            return sorts[starts[row] + k];
        }

        int value(int row, int k) {
            if (row < 1 || row > rowCount || k < 0 || k >= lengths[row]) {
                return 0;
            }
            return values[starts[row] + k];
        }

        int word(int row, int k) {
            return sort(row, k) == WORD ? value(row, k) : 0;
        }

        int countWord(int row, int bit) {
            int count = 0;
            for (int k = 0; k < length(row); k++) {
                if (word(row, k) == bit) {
                    count++;
                }
            }
            return count;
        }

        private boolean fits(int row, int mask, int block) {
            return (kinds[row] & mask) != 0 && (block == ANY_BLOCK || blocks[row] == block);
        }

        int count(int mask, int block) {
            return countUpTo(rowCount, mask, block);
        }

        /** 0 for what means nothing. */
        int numberOf(int mask, int block, int row) {
            return row == 0 ? 0 : countUpTo(row, mask, block);
        }

        private int countUpTo(int last, int mask, int block) {
            int count = 0;
            for (int row = 1; row <= last && row <= rowCount; row++) {
                if (fits(row, mask, block)) {
                    count++;
                }
            }
            return count;
        }

        int nth(int mask, int block, int n) {
            int count = 0;
            for (int row = 1; row <= rowCount; row++) {
                if (fits(row, mask, block)) {
                    count++;
                    if (count == n) {
                        return row;
                    }
                }
            }
            return 0;
        }

        /** The first row that gives the name, 0 if it means nothing. */
        int meant(int mask, int block, int name) {
            for (int row = 1; row <= rowCount; row++) {
                if (fits(row, mask, block) && value(row, GIVEN) == name) {
                    return row;
                }
            }
            return 0;
        }

        /** What a run's on, reads or writes at token k is with. */
        int usedPort(int row, int k) {
            return meant(PORTS, block(row), value(row, k + 1));
        }

        /** The inner whose name is token k of a connect. */
        int inner(int row, int k) {
            return meant(INNER, block(row), value(row, k));
        }

        /** The port behind an inner's name at token k of a connect. */
        int innerPort(int row, int k, int inner) {
            return meant(PORTS, target(inner), value(row, k + 2));
        }

        int countMissingIn(Edition other) {
            int count = 0;
            for (int row = 1; row <= rowCount; row++) {
                if (!isIn(other, row)) {
                    count++;
                }
            }
            return count;
        }

        private boolean isIn(Edition other, int row) {
            for (int there = 1; there <= other.rowCount; there++) {
                if (isAlike(row, other, there) && isAlike(blocks[row], other, other.blocks[there])) {
                    return true;
                }
            }
            return false;
        }

        /** Of row 0 and row 0 too, as two rows that stand in no block. */
        private boolean isAlike(int row, Edition other, int there) {
            if (kind(row) != other.kind(there) || length(row) != other.length(there)) {
                return false;
            }
            for (int k = 0; k < length(row); k++) {
                if (!isSameToken(row, k, other, there)) {
                    return false;
                }
            }
            return true;
        }

        /** Each edition numbers its names by itself. */
        private boolean isSameToken(int row, int k, Edition other, int there) {
            int sort = sort(row, k);
            if (sort != other.sort(there, k)) {
                return false;
            }
            int mine = value(row, k);
            int theirs = other.value(there, k);
            return sort == NAME ? nameOf(mine) == other.nameOf(theirs) : mine == theirs;
        }
    }

    /** Writes an edition as the text, in place of that there was. */
    private static final class Writer {
        private final Octets text;
        private final Words words;

        Writer(Octets text, Words words) {
            this.text = text;
            this.words = words;
        }

        void write(Edition edition) {
            text.clear();
            for (int row = 1; row <= edition.rowCount(); row++) {
                writeRow(edition, row);
            }
        }

        private void writeRow(Edition edition, int row) {
            for (int k = 0; k < edition.length(row); k++) {
                if (k > 0) {
                    text.add(' ');
                }
                writeToken(edition, row, k);
            }
            text.add(LINE_FEED);
        }

        private void writeToken(Edition edition, int row, int k) {
            int value = edition.value(row, k);
            switch (edition.sort(row, k)) {
                case WORD:
                    writeName(words.nameOf(value));
                    break;
                case NAME:
                    writeName(edition.nameOf(value));
                    break;
                case NUMBER:
                    writeNumber(value);
                    break;
                default:
                    text.add(value);
            }
        }

        private void writeName(long name) {
            long rest = name;
            for (int i = 0; i < NAME_LENGTH && rest > 0; i++) {
                text.add(Words.octetOf((int) (rest % Words.BASE)));
                rest /= Words.BASE;
            }
        }

        private void writeNumber(int value) {
            if (value < 0) {
                text.add('-');
                text.add(' ');
            }
            int size = Math.abs(value);
            for (int weight = 100000; weight > 0; weight /= 10) {
                if (size >= weight || weight == 1) {
                    text.add('0' + size / weight % 10);
                }
            }
        }
    }

    /** Which rule a row breaks; 0 is none, and a rule is kept where what it looks at means nothing. */
    private static final class Rules {
        private final int[] reached;

        Rules() {
            reached = new int[ROW_LIMIT];
        }

        int firstBroken(Edition edition) {
            for (int row = 1; row <= edition.rowCount(); row++) {
                int rule = leastBroken(edition, row);
                if (rule != 0) {
                    return row * 100 + rule;
                }
            }
            return 0;
        }

        private int leastBroken(Edition edition, int row) {
            if (isGivenBefore(edition, row)) {
                return 1;
            }
            switch (edition.kind(row)) {
                case TYPE:
                    return ruleOfType(edition, row);
                case DATA:
                case PROVIDES:
                case REQUIRES:
                case KEEPS:
                    return edition.target(row) == 0 ? 2 : 0;
                case RUN:
                    return ruleOfRun(edition, row);
                case INNER:
                    return ruleOfInner(edition, row);
                case CONNECT:
                    return ruleOfConnect(edition, row);
                default:
                    return 0;
            }
        }

        private static boolean isGivenBefore(Edition edition, int row) {
            int kind = edition.kind(row);
            if ((kind & (STATEMENTS | NAMED_MEMBERS)) == 0) {
                return false;
            }
            int givers = (kind & STATEMENTS) != 0 ? STATEMENTS : NAMED_MEMBERS;
            return edition.meant(givers, edition.block(row), edition.value(row, GIVEN)) != row;
        }

        private static int ruleOfType(Edition edition, int row) {
            if (edition.target(row) == 0) {
                return 2;
            }
            return edition.value(row, FIRST_NUMBER) > edition.value(row, SECOND_NUMBER) ? 3 : 0;
        }

        private static int ruleOfRun(Edition edition, int row) {
            boolean misused = false;
            for (int k = TRIGGER; k < edition.length(row); k += edition.word(row, k) == EVERY ? 2 : 4) {
                int word = edition.word(row, k);
                if ((word & USES) != 0) {
                    int portRow = edition.usedPort(row, k);
                    if (portRow == 0 || isMissingDatum(edition, portRow, edition.value(row, k + 3))) {
                        return 2;
                    }
                    misused |= edition.kind(portRow) == (word == WRITES ? REQUIRES : PROVIDES);
                }
            }
            if ((edition.word(row, TRIGGER) & (EVERY | ON)) == 0) {
                return 4;
            }
            return misused ? 5 : 0;
        }

        private static boolean isMissingDatum(Edition edition, int portRow, int name) {
            int interfaceRow = edition.target(portRow);
            return interfaceRow != 0 && edition.meant(DATA, interfaceRow, name) == 0;
        }

        private int ruleOfInner(Edition edition, int row) {
            if (edition.target(row) == 0) {
                return 2;
            }
            return isWithinItself(edition, row) ? 10 : 0;
        }

        /** Whether the whole that the row stands in can be reached from the inner, over inners. */
        private boolean isWithinItself(Edition edition, int row) {
            int count = reach(edition.target(row), 0);
            for (int i = 0; i < count && i < reached.length; i++) {
                if (reached[i] == edition.block(row)) {
                    return true;
                }
                for (int inner = 1; inner <= edition.rowCount(); inner++) {
                    if (edition.kind(inner) == INNER && edition.block(inner) == reached[i]) {
                        count = reach(edition.target(inner), count);
                    }
                }
            }
            return false;
        }

        /** How many are reached then. */
        private int reach(int partRow, int count) {
            if (partRow == 0 || count >= reached.length) {
                return count;
            }
            for (int i = 0; i < count; i++) {
                if (reached[i] == partRow) {
                    return count;
                }
            }
            reached[count] = partRow;
            return count + 1;
        }

        private static int ruleOfConnect(Edition edition, int row) {
            int firstInner = edition.inner(row, FIRST_INNER);
            int secondInner = edition.inner(row, SECOND_INNER);
            int first = edition.innerPort(row, FIRST_INNER, firstInner);
            int second = edition.innerPort(row, SECOND_INNER, secondInner);
            if (isMissingEnd(edition, firstInner, first) || isMissingEnd(edition, secondInner, second)) {
                return 2;
            }
            if (edition.kind(first) == REQUIRES || edition.kind(second) == PROVIDES) {
                return 5;
            }
            int rule = ruleOfInterfaces(edition, edition.target(first), edition.target(second));
            if (rule != 0) {
                return rule;
            }
            return second != 0 && isConnectedBefore(edition, row) ? 9 : 0;
        }

        private static boolean isMissingEnd(Edition edition, int inner, int portRow) {
            return inner == 0 || (portRow == 0 && edition.target(inner) != 0);
        }

        /** The least over all data, for a later datum may break a lesser rule. */
        private static int ruleOfInterfaces(Edition edition, int first, int second) {
            if (first == 0 || second == 0) {
                return 0;
            }
            int least = 0;
            for (int datum = 1; datum <= edition.rowCount(); datum++) {
                if (edition.kind(datum) == DATA && edition.block(datum) == second) {
                    int there = edition.meant(DATA, first, edition.value(datum, GIVEN));
                    int rule = ruleOfDatum(edition, there, datum);
                    if (rule != 0 && (least == 0 || rule < least)) {
                        least = rule;
                    }
                }
            }
            return least;
        }

        private static int ruleOfDatum(Edition edition, int there, int datum) {
            if (there == 0) {
                return 6;
            }
            int inner = edition.target(there);
            int outer = edition.target(datum);
            int innerUnit = edition.target(inner);
            int outerUnit = edition.target(outer);
            if (innerUnit == 0 || outerUnit == 0) {
                return 0;
            }
            if (edition.value(innerUnit, LAST_NAME) != edition.value(outerUnit, LAST_NAME)) {
                return 7;
            }
            boolean within = isAtMost(edition, outer, inner, FIRST_NUMBER)
                && isAtMost(edition, inner, outer, SECOND_NUMBER);
            return within ? 0 : 8;
        }

        /** Crosswise, so that nothing is rounded; the largest product is below 10 to the 14th. */
        private static boolean isAtMost(Edition edition, int less, int more, int bound) {
            int lessUnit = edition.target(less);
            int moreUnit = edition.target(more);
            long left = (long) edition.value(less, bound)
                * edition.value(lessUnit, FIRST_NUMBER) * edition.value(moreUnit, SECOND_NUMBER);
            long right = (long) edition.value(more, bound)
                * edition.value(moreUnit, FIRST_NUMBER) * edition.value(lessUnit, SECOND_NUMBER);
            return left <= right;
        }

        /** In one whole the same two names mean the same inner and the same port. */
        private static boolean isConnectedBefore(Edition edition, int row) {
            int inner = edition.value(row, SECOND_INNER);
            int name = edition.value(row, SECOND_INNER + 2);
            for (int earlier = 1; earlier < row; earlier++) {
                if (edition.kind(earlier) == CONNECT && edition.block(earlier) == edition.block(row)
                    && edition.value(earlier, SECOND_INNER) == inner
                    && edition.value(earlier, SECOND_INNER + 2) == name) {
                    return true;
                }
            }
            return false;
        }
    }
}
