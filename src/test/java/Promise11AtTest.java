/** Promise 11: octet i of the text that is there. */
public final class Promise11AtTest {
    public static void main(String[] args) {
        Due due = new Due();
        PartText x = new PartText();
        due.is("at(0)", -1, x.at(0));
        Due.type(x, "unit a=1/1 k;\u00ff");
        due.is("at(0)", 'u', x.at(0));
        due.is("at(4)", ' ', x.at(4));
        due.is("at(12)", ';', x.at(12));
        due.is("at(13)", 255, x.at(13));
        due.is("at(14)", -1, x.at(14));
        due.is("at(-1)", -1, x.at(-1));
        due.is("at(least)", -1, x.at(Integer.MIN_VALUE));
        due.is("at(most)", -1, x.at(Integer.MAX_VALUE));
        due.is("at(2000)", -1, x.at(2000));
        due.is("at changes nothing", 'u', x.at(0));

        PartText y = Due.reading("unit a=1/1 k;");
        due.is("empty after read", -1, y.at(0));
        y.print();
        due.is("written", '=', y.at(7));
        due.is("written line feed", 10, y.at(18));
        due.is("behind what is written", -1, y.at(19));
        y.read();
        due.is("empty again", -1, y.at(0));
        due.end();
    }
}
