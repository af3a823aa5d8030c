/** Promise 1: no text, no edition. */
public final class Promise01NewObjectTest {
    public static void main(String[] args) {
        Due due = new Due();
        PartText x = new PartText();
        due.is("at(0)", -1, x.at(0));
        due.is("part(1, 0)", -1, x.part(1, 0));
        due.is("part(1, 9)", -1, x.part(1, 9));
        due.is("port(1, 1, 0)", -1, x.port(1, 1, 0));
        due.is("runnable(1, 1, 0)", -1, x.runnable(1, 1, 0));
        due.is("connector(1, 0)", -1, x.connector(1, 0));
        due.is("check()", -3, x.check());
        due.is("unit(1, 1, 0)", -1, x.unit(1, 1, 0));
        due.is("print()", -3, x.print());
        due.is("compare(0)", -1, x.compare(0));
        due.is("compare(1)", -1, x.compare(1));

        due.is("read() of no text", 0, x.read());
        due.is("check() of no rows", 0, x.check());
        due.is("print() of no rows", 0, x.print());
        due.is("compare(1) with itself", 0, x.compare(1));

        PartText one = new PartText();
        Due.typeAndRead(one, "part p { }");
        due.is("objects share nothing", -3, new PartText().check());
        due.end();
    }
}
