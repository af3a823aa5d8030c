/** Terms: how parts, ports, connectors and names are numbered, and what a name means. */
public final class Terms3NamesTest {
    private static final Due DUE = new Due();

    public static void main(String[] args) {
        parts();
        members();
        connectors();
        firstOfAll();
        eachKindByItself();
        nameNumbers();
        DUE.end();
    }

    private static void parts() {
        DUE.sentence("PARTS are the parts and wholes, numbered from 1 on as they begin");
        PartText x = Due.reading("whole a{part x:b;part y:c;}unit u=1/1 k;part b{}interface f{}whole c{}part d{}");
        int[] wholes = {1, 0, 1, 0};
        int[] names = {1, 3, 5, 9};
        for (int i = 0; i < wholes.length; i++) {
            DUE.is("part(" + (i + 1) + ", 1)", wholes[i], x.part(i + 1, 1));
            DUE.is("part(" + (i + 1) + ", 0)", names[i], x.part(i + 1, 0));
        }
        DUE.is("part(0, 0)", -1, x.part(0, 0));
        DUE.is("part(5, 0), an INNER is none of the PARTS", -1, x.part(5, 0));
        PartText full = Due.reading("part p{}whole w{}".repeat(30));
        DUE.is("part(59, 1)", 0, full.part(59, 1));
        DUE.is("part(60, 1)", 1, full.part(60, 1));
        DUE.is("part(61, 1)", -1, full.part(61, 1));
    }

    private static void members() {
        DUE.sentence("PORTS, what a part runs, INNERS of a whole likewise, each from 1 on");
        PartText x = Due.reading("part p{run a every 1;requires b:f;run c every 2;keeps d:t;provides e:f;requires g:f;}"
            + "part q{provides h:f;run i every 3;}whole w{connect y.h to z.b;part z:p;connect z.e to y.h;part y:q;}");
        // p a b f c d t e g q h i w y z
        int[][] ports = {{1, 1, 3}, {1, 2, 8}, {1, 3, 9}, {1, 4, -1}, {2, 1, 11}, {2, 2, -1}, {3, 1, -1}, {1, 0, -1}};
        for (int[] row : ports) {
            DUE.is("port(" + row[0] + ", " + row[1] + ", 0)", row[2], x.port(row[0], row[1], 0));
        }
        int[][] runs = {{1, 1, 2}, {1, 2, 5}, {1, 3, -1}, {2, 1, 12}, {2, 2, -1}, {3, 1, -1}, {1, 0, -1}};
        for (int[] row : runs) {
            DUE.is("runnable(" + row[0] + ", " + row[1] + ", 0)", row[2], x.runnable(row[0], row[1], 0));
        }
        int[][] inners = {{1, 2, 1}, {2, 1, 2}};
        for (int[] row : inners) {
            DUE.is("connector(" + row[0] + ", 1)", row[1], x.connector(row[0], 1));
            DUE.is("connector(" + row[0] + ", 3)", row[2], x.connector(row[0], 3));
        }
    }

    private static void connectors() {
        DUE.sentence("CONNECTORS are numbered from 1 on over all wholes.");
        PartText x = Due.reading("whole u{connect a.b to c.d;connect e.f to g.h;}part p{}whole v{}"
            + "whole w{part i:p;connect a.b to c.d;}");
        int[] wants = {-1, 1, 1, 4, -1};
        for (int i = 0; i < wants.length; i++) {
            DUE.is("connector(" + i + ", 0)", wants[i], x.connector(i, 0));
        }
    }

    private static void firstOfAll() {
        DUE.sentence("A NAME means the first thing in the text that has it");
        DUE.is("an interface", 1, Due.reading("interface f{}interface f{}part p{provides o:f;}").port(1, 1, 2));
        DUE.is("an interface further on", 2,
            Due.reading("part p{provides o:f;}interface g{}interface f{}interface f{}").port(1, 1, 2));
        DUE.is("a PORT", 2, Due.reading("part p{run r on b.d;requires a:f;requires b:f;provides b:g;}").runnable(1, 1, 2));
        PartText x = Due.reading("whole w{connect b.y to b.x;part a:p;part b:p;part b:q;}"
            + "part p{requires x:f;provides x:f;provides y:f;}part p{provides y:f;}part q{provides y:f;}");
        int[] wants = {1, 2, 3, 2, 1};
        for (int what = 0; what < wants.length; what++) {
            DUE.is("connector(1, " + what + ")", wants[what], x.connector(1, what));
        }
        // Which of two things is meant shows by the rule that the first one breaks or keeps.
        String ports = "whole w{part a:p;connect a.o to a.r;}part p{provides o:f;requires r:g;}";
        String data = "interface f{data d:t;}interface g{data d:u;}";
        String units = "unit m=1/1 way;unit s=1/1 time;unit m=1/1 time;";
        DUE.checks(1701, ports + data + units + "type t=1 to 2 m;type u=1 to 2 m;");
        DUE.checks(307, ports + data + units + "type t=1 to 2 m;type u=1 to 2 s;");
        DUE.checks(308, ports + data + units + "type t=0 to 3 m;type u=1 to 2 m;type t=1 to 2 m;");
        DUE.checks(308, ports + data.replace("data d:t;", "data d:t;data d:u;") + units
            + "type t=0 to 3 m;type u=1 to 2 m;");
        DUE.checks(306, ports + "interface f{}interface g{data d:u;}interface f{data d:u;}" + units + "type u=1 to 2 m;");
        DUE.checks(305, ports.replace("provides o:f;", "requires o:f;provides o:f;") + "interface f{}interface g{}");
    }

    private static void eachKindByItself() {
        DUE.sentence("(units, types, interfaces, PARTS: each kind by itself; PORTS of a part, data of an interface,"
            + " INNERS of a whole; of parts and wholes all are one kind).");
        // One name for one thing of each kind: each use means the one of its kind.
        String same = "type a=1 to 2 a;unit a=1/1 a;interface a{data a:a;}part a{requires a:a;run r on a.a;}"
            + "whole w{part a:a;connect a.a to a.a;}";
        PartText x = Due.reading(same);
        DUE.is("port(1, 1, 2)", 1, x.port(1, 1, 2));
        DUE.is("runnable(1, 1, 2)", 1, x.runnable(1, 1, 2));
        int[] wants = {2, 1, 1, 1, 1};
        for (int what = 0; what < wants.length; what++) {
            DUE.is("connector(1, " + what + ")", wants[what], x.connector(1, what));
        }
        DUE.is("the unit's name is given again", 201, x.check());

        DUE.is("a kept one and a run are no PORT", 0, Due.reading("part p{keeps x:t;run x on x.d;}").runnable(1, 1, 2));
        DUE.is("behind them is one", 1, Due.reading("part p{keeps x:t;run x on x.d;requires x:f;}").runnable(1, 1, 2));
        DUE.is("a PORT of another part", 0, Due.reading("part q{requires x:f;}part p{run r on x.d;}").runnable(2, 1, 2));
        DUE.is("an INNER of another whole", 0,
            Due.reading("part p{}whole v{part a:p;}whole w{connect a.x to a.x;}").connector(1, 1));
        DUE.is("a type is no interface", 0, Due.reading("part p{provides o:t;}type t=1 to 2 a;").port(1, 1, 2));
        DUE.checks(302, "unit a=1/1 k;interface g{data d:a;}interface f{data e:a;}");
        DUE.checks(1202, "unit a=1/1 k;type t=1 to 2 a;interface g{data d:t;}interface f{data e:t;}"
            + "part p{requires r:f;run x on r.e;run y on r.d;}");

        // The first p is a whole, which has no PORTS, and the first q a part.
        PartText y = Due.reading("whole p{}part p{provides x:f;}part q{provides x:f;}whole q{}"
            + "whole w{part a:p;part b:q;connect a.x to b.x;}");
        DUE.is("a whole before a part", 0, y.connector(1, 2));
        DUE.is("a part before a whole", 1, y.connector(1, 4));
    }

    private static void nameNumbers() {
        DUE.sentence("NAMES (no WORDS) have numbers from 1 on as they first stand in the text.");
        PartText x = Due.reading("unit a=1/1 b;type c=1 to 2 d;interface e{data f:g;}"
            + "part h{provides i:j;requires k:l;keeps m:n;run o on p.q reads r.s writes t.u;run v every 5;}"
            + "whole w{part x:y;connect z.aa to ab.ac;}part ad{}part a{}part y{}");
        DUE.is("part(1, 0)", 8, x.part(1, 0));
        DUE.is("port(1, 1, 0)", 9, x.port(1, 1, 0));
        DUE.is("port(1, 2, 0)", 11, x.port(1, 2, 0));
        DUE.is("runnable(1, 1, 0)", 15, x.runnable(1, 1, 0));
        DUE.is("runnable(1, 2, 0)", 22, x.runnable(1, 2, 0));
        DUE.is("part(2, 0)", 23, x.part(2, 0));
        DUE.is("part(3, 0)", 30, x.part(3, 0));
        DUE.is("part(4, 0), as it first stood", 1, x.part(4, 0));
        DUE.is("part(5, 0), as it first stood", 25, x.part(5, 0));

        PartText many = Due.reading(parts(59) + "part p0{}");
        DUE.is("the 59th name", 59, many.part(59, 0));
        DUE.is("the first name again", 1, many.part(60, 0));
        Due.typeAndRead(many, "part p58{}");
        DUE.is("each text has its own numbers", 1, many.part(1, 0));
    }

    private static String parts(int count) {
        StringBuilder rows = new StringBuilder();
        for (int i = 0; i < count; i++) {
            rows.append("part p").append(i).append("{}");
        }
        return rows.toString();
    }
}
