/** Promise 2: four octets, the highest first, those that are 0 passed over, 2000 at most. */
public final class Promise02SignTest {
    public static void main(String[] args) {
        Due due = new Due();
        PartText x = new PartText();
        x.sign(0x61626364);
        due.is("highest first", "abcd", Due.text(x));
        x.sign(0);
        due.is("four nulls", "abcd", Due.text(x));
        x.sign(0x00650066);
        x.sign(0x67000000);
        x.sign(0x00000068);
        due.is("nulls within", "abcdefgh", Due.text(x));
        x.sign(0xFF80007F);
        due.is("octet above 127", 255, x.at(8));
        due.is("octet 128", 128, x.at(9));
        due.is("octet 127", 127, x.at(10));
        due.is("no more", -1, x.at(11));

        PartText full = new PartText();
        Due.type(full, "a".repeat(1998));
        full.sign(0x62636465);
        due.is("octet 1997", 'a', full.at(1997));
        due.is("octet 1998", 'b', full.at(1998));
        due.is("octet 1999", 'c', full.at(1999));
        due.is("octet 2000", -1, full.at(2000));
        full.sign(0x66666666);
        due.is("the last one stays", 'c', full.at(1999));
        due.is("nothing comes behind", -1, full.at(2000));

        PartText lost = new PartText();
        Due.type(lost, " ".repeat(2000));
        Due.type(lost, "?");
        due.is("what is lost is not read", 0, lost.read());

        PartText written = Due.reading("unit a=1/1 k;");
        written.print();
        Due.type(written, "x");
        due.is("behind what was written", "unit a = 1 / 1 k ;\nx", Due.text(written));
        due.end();
    }
}
