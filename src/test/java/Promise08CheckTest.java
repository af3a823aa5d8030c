/** Promise 8: the first row that breaks a rule, and the least rule that it breaks. */
public final class Promise08CheckTest {
    private static final Due DUE = new Due();
    /** Four rows. */
    private static final String TYPES = "unit m=1/1 way;unit s=1/1 time;type t=1 to 2 m;type u=1 to 2 s;";
    /** Seven rows, with an interface. */
    private static final String BASE = TYPES + "interface f{data d:t;}";

    public static void main(String[] args) {
        DUE.is("nothing is in hand", -3, new PartText().check());
        DUE.checks(0, "");
        DUE.checks(0, BASE
            + "part p{provides o:f;requires i:f;keeps k:t;run a on i.d reads i.d writes o.d;run b every 5;}"
            + "whole w{part a:p;part b:p;connect a.o to b.i;connect b.o to a.i;}");
        givenStatements();
        givenMembers();
        meansNothing();
        runMeansNothing();
        connectMeansNothing();
        ranges();
        runs();
        connects();
        data();
        dataThatMeanNothing();
        connectedBefore();
        withinItself();
        order();
        DUE.end();
    }

    private static void givenStatements() {
        String[] statements = {"unit x=1/1 k;", "type x=1 to 2 u;", "interface x{}", "part x{}", "whole x{}"};
        int[] rows = {1, 1, 2, 2, 2};
        for (int i = 0; i < statements.length; i++) {
            DUE.checks(0, "unit u=1/1 k;" + statements[i]);
            for (int k = 0; k < statements.length; k++) {
                DUE.checks((rows[i] + 2) * 100 + 1, "unit u=1/1 k;" + statements[i] + statements[k]);
            }
        }
        DUE.checks(0, "unit k=1/1 k;unit j=1/1 k;");
        DUE.checks(0, "part a{}part b{}");
        DUE.checks(301, "part p{}part p{keeps a:nix;}");
        DUE.checks(201, "unit m=1/1 k;type m=2 to 1 nix;");
        DUE.checks(501, "part p{}part q{}part p{}");
    }

    private static void givenMembers() {
        DUE.checks(701, TYPES + "interface f{data a:t;data a:t;}");
        DUE.checks(701, TYPES + "interface f{data a:t;data a:nix;}");
        DUE.checks(0, TYPES + "interface f{data a:t;}interface g{data a:t;data f:t;data g:t;}");
        String[] members = {"provides x:f;", "requires x:f;", "keeps x:t;", "run x every 1;"};
        for (String first : members) {
            DUE.checks(0, BASE + "part p{" + first + "}");
            for (String second : members) {
                DUE.checks(1001, BASE + "part p{" + first + second + "}");
            }
        }
        DUE.checks(0, BASE + "part p{provides x:f;}part q{requires x:f;keeps p:t;run q every 1;}");
        DUE.checks(501, "part p{}whole w{part a:p;part a:p;}");
        DUE.checks(0, "part p{}whole w{part w:p;part p:p;}");
        DUE.checks(0, "part p{}whole w{part a:p;}whole v{part a:p;}");
        String twice = BASE + "part p{provides o:f;requires r:f;}whole w{part a:p;part b:p;part c:p;";
        DUE.checks(0, twice + "connect a.o to b.r;connect a.o to c.r;}");
    }

    private static void meansNothing() {
        DUE.checks(102, "type t=1 to 2 m;");
        DUE.checks(0, "type t=1 to 2 m;unit m=1/1 k;");
        DUE.checks(202, "unit m=1/1 k;type t=1 to 2 k;");
        DUE.checks(202, "unit m=1/1 k;type t=2 to 1 t;");
        DUE.checks(202, "interface f{data d:t;}");
        DUE.checks(202, "interface f{data d:f;}");
        DUE.checks(202, "part p{keeps d:p;}");
        DUE.checks(202, "part p{provides d:p;}");
        DUE.checks(202, "part p{requires d:nix;}");
        DUE.checks(602, TYPES + "part p{requires d:t;}");
        DUE.checks(602, TYPES + "part p{keeps d:m;}");
        DUE.checks(202, "whole w{part a:nix;}");
        DUE.checks(402, "interface f{}whole w{part a:f;}");
        DUE.checks(0, "whole w{part a:p;}part p{provides o:f;}interface f{}");
    }

    private static void runMeansNothing() {
        String p = BASE + "part p{requires r:f;provides o:f;keeps k:t;run x every 1;";
        DUE.checks(0, p + "run a on r.d reads r.d writes o.d;}");
        DUE.checks(1302, p + "run a on nix.d;}");
        DUE.checks(1302, p + "run a on r.nix;}");
        DUE.checks(1302, p + "run a on k.d;}");
        DUE.checks(1302, p + "run a on x.d;}");
        DUE.checks(1302, p + "run a every 1 reads nix.d;}");
        DUE.checks(1302, p + "run a every 1 reads r.nix;}");
        DUE.checks(1302, p + "run a every 1 reads r.d writes o.nix;}");
        DUE.checks(1302, p + "run a reads r.d writes nix.d;}");
        DUE.checks(0, BASE + "part p{run a on r.d;requires r:f;}");
        DUE.checks(1502, p + "}part q{run a on r.d;}");
        // The datum is looked for in an interface that means nothing: the port's row tells it.
        DUE.checks(302, "part p{run a on r.d;requires r:nix;}");
    }

    private static void connectMeansNothing() {
        String w = BASE + "part p{requires r:f;provides o:f;}whole v{part a:p;}"
            + "whole w{part a:p;part b:p;part c:v;";
        DUE.checks(0, w + "connect a.o to b.r;}");
        String[] ends = {"nix.o to b.r", "a.nix to b.r", "a.o to nix.r", "a.o to b.nix", "c.a to b.r", "a.o to c.r",
            "p.o to b.r", "w.o to b.r", "a.d to b.r"};
        for (String end : ends) {
            DUE.checks(1902, w + "connect " + end + ";}");
        }
        DUE.checks(0, BASE + "whole w{connect a.o to b.r;part b:p;part a:p;}part p{requires r:f;provides o:f;}");
        // The port is looked for in a part that means nothing: the inner's row tells it.
        DUE.checks(302, "whole w{connect a.o to b.r;part a:nix;part b:nix;}");
        DUE.checks(202, "whole w{connect a.o to b.r;part a:nix;}");
        DUE.checks(202, "whole w{connect b.r to a.o;part a:nix;}");
    }

    private static void ranges() {
        DUE.checks(203, "unit m=1/1 k;type t=2 to 1 m;");
        DUE.checks(203, "unit m=1/1 k;type t=-1 to -2 m;");
        DUE.checks(0, "unit m=1/1 k;type t=-2 to -1 m;");
        DUE.checks(0, "unit m=1/1 k;type t=-0 to 0 m;");
        DUE.checks(0, "unit m=1/1 k;type t=0 to -0 m;");
        DUE.checks(203, "unit m=1/1 k;type t=0 to -1 m;");
        DUE.checks(0, "unit m=1/1 k;type t=-999999 to 999999 m;");
        DUE.checks(203, "unit m=1/1 k;type t=999999 to 999998 m;");
        DUE.checks(0, "unit m=1/1 k;type t=009 to 10 m;");
    }

    private static void runs() {
        String p = BASE + "part p{requires r:f;provides o:f;";
        DUE.checks(1104, p + "run a;}");
        DUE.checks(1104, p + "run a reads r.d;}");
        DUE.checks(1104, p + "run a reads o.d;}");
        DUE.checks(0, p + "run a on r.d;}");
        DUE.checks(0, p + "run a every 1 reads r.d writes o.d;}");
        DUE.checks(1105, p + "run a on o.d;}");
        DUE.checks(1105, p + "run a every 1 reads o.d;}");
        DUE.checks(1105, p + "run a every 1 writes r.d;}");
        DUE.checks(1105, p + "run a on r.d reads r.d writes r.d;}");
        DUE.checks(1105, p + "run a on o.d reads r.d writes o.d;}");
        DUE.checks(1102, p + "run a on o.d reads r.nix;}");
    }

    private static void connects() {
        String w = BASE + "interface g{data e:t;}part p{requires r:f;provides o:f;provides u:g;requires v:g;}"
            + "whole w{part a:p;part b:p;";
        DUE.checks(0, w + "connect a.o to b.r;connect a.u to b.v;}");
        DUE.checks(0, w + "connect a.o to a.r;}");
        DUE.checks(2005, w + "connect a.r to b.r;}");
        DUE.checks(2005, w + "connect a.o to b.o;}");
        DUE.checks(2005, w + "connect a.r to b.o;}");
        DUE.checks(2005, w + "connect a.r to b.u;}");
        DUE.checks(2006, w + "connect a.o to b.v;}");
        DUE.checks(2006, w + "connect a.u to b.r;}");
    }

    /** Row 7 connects a port of interface f to one of interface g, which stand behind it. */
    private static String wired(String f, String g) {
        return "part p{provides o:f;requires r:g;}whole w{part a:p;connect a.o to a.r;}"
            + "interface f{" + f + "}interface g{" + g + "}";
    }

    private static void data() {
        String types = TYPES + "unit km=1000/1 way;unit ms=1/1000 time;"
            + "type near=0 to 1000 m;type far=0 to 1 km;type over=0 to 1001 m;type under=-1 to 5 m;"
            + "type sec=1 to 7 s;type milli=1000 to 7000 ms;type early=999 to 7000 ms;type late=1000 to 7001 ms;";
        DUE.checks(0, wired("", "") + types);
        DUE.checks(0, wired("data a:u;data b:t;", "data b:t;") + types);
        DUE.checks(0, wired("data b:t;", "") + types);
        DUE.checks(706, wired("", "data b:t;") + types);
        DUE.checks(706, wired("data a:t;", "data a:t;data b:t;") + types);
        DUE.checks(706, wired("data a:u;", "data a:t;data b:t;") + types);
        DUE.checks(706, wired("data a:over;", "data a:t;data b:t;") + types);
        DUE.checks(707, wired("data a:u;", "data a:t;") + types);
        DUE.checks(707, wired("data a:over;data b:u;", "data a:t;data b:t;") + types);
        DUE.checks(708, wired("data a:over;", "data a:t;") + types);
        DUE.checks(0, wired("data a:near;", "data a:far;") + types);
        DUE.checks(0, wired("data a:far;", "data a:near;") + types);
        DUE.checks(708, wired("data a:over;", "data a:far;") + types);
        DUE.checks(708, wired("data a:under;", "data a:far;") + types);
        DUE.checks(0, wired("data a:t;", "data a:far;") + types);
        DUE.checks(708, wired("data a:far;", "data a:t;") + types);
        DUE.checks(0, wired("data a:milli;", "data a:sec;") + types);
        DUE.checks(0, wired("data a:sec;", "data a:early;") + types);
        DUE.checks(708, wired("data a:early;", "data a:sec;") + types);
        DUE.checks(708, wired("data a:late;", "data a:sec;") + types);
        // The name means the first datum of f; of g each row is looked at.
        DUE.checks(1101, wired("data a:near;data a:over;", "data a:far;") + types);
        DUE.checks(708, wired("data a:over;data a:near;", "data a:far;") + types);
        DUE.checks(708, wired("data a:far;", "data a:near;data a:t;") + types);
        String wide = "unit x=9999/1 k;unit y=9998/1 k;unit z=1/9999 k;type a=-999999 to 999999 x;"
            + "type b=-999999 to 999999 y;type c=-999999 to 999999 z;";
        DUE.checks(0, wired("data d:b;", "data d:a;") + wide);
        DUE.checks(708, wired("data d:a;", "data d:b;") + wide);
        DUE.checks(0, wired("data d:c;", "data d:a;") + wide);
        DUE.checks(708, wired("data d:a;", "data d:c;") + wide);
    }

    private static void dataThatMeanNothing() {
        DUE.checks(1002, wired("data a:nix;", "data a:t;") + TYPES);
        DUE.checks(1302, wired("data a:t;", "data a:nix;") + TYPES);
        DUE.checks(1502, wired("data a:v;", "data a:t;") + "type v=0 to 99 nix;" + TYPES);
        DUE.checks(1502, wired("data a:t;", "data a:v;") + "type v=0 to 99 nix;" + TYPES);
        DUE.checks(706, wired("data a:nix;", "data a:t;data b:t;") + TYPES);
        DUE.checks(707, wired("data a:nix;data b:u;", "data a:t;data b:t;") + TYPES);
        DUE.checks(202, wired("", "").replace("interface f{}", ""));
        String ports = "whole w{part a:p;connect a.o to a.r;}part p{provides o:f;requires r:g;}";
        DUE.checks(702, ports + "interface f{}");
        DUE.checks(602, ports + "interface g{data d:nix;}");
    }

    private static void connectedBefore() {
        String w = BASE + "part p{provides o:f;requires r:f;provides q:f;requires s:f;}whole w{part a:p;part b:p;";
        DUE.checks(0, w + "connect a.o to b.r;connect a.o to a.r;connect a.o to b.s;connect a.o to a.s;}");
        DUE.checks(1809, w + "connect a.o to b.r;connect a.o to b.r;}");
        DUE.checks(1809, w + "connect a.o to b.r;connect b.q to b.r;}");
        DUE.checks(1909, w + "connect a.o to b.r;connect b.q to b.s;connect b.q to b.r;}");
        DUE.checks(0, w + "connect a.o to b.r;}whole v{part a:p;part b:p;connect a.o to b.r;}");
        String g = wired("data d:t;", "data d:t;").replace("connect a.o to a.r;", "connect a.o to a.r;connect a.o to a.r;");
        DUE.checks(809, g + TYPES);
    }

    private static void withinItself() {
        DUE.checks(210, "whole a{part x:a;}");
        DUE.checks(210, "whole a{part x:b;}whole b{part x:a;}");
        DUE.checks(210, "whole a{part x:b;}whole b{part y:p;part x:c;}whole c{part x:a;part y:p;}part p{}");
        DUE.checks(510, "whole a{part x:b;}whole b{part x:b;}");
        DUE.checks(0, "whole a{part x:b;part y:c;}whole b{part x:c;part y:c;}whole c{part x:p;}part p{}");
        DUE.checks(310, "whole a{part x:b;part y:a;}whole b{}");
        DUE.checks(502, "whole a{part x:b;}whole b{part x:nix;}");
        DUE.checks(210, "whole a{part x:b;}whole b{part y:nix;part x:a;}");
        DUE.checks(401, "whole a{part x:p;}whole a{part x:a;}part p{}");
        DUE.checks(201, "unit p=1/1 k;part p{}whole a{part x:p;}");
        DUE.checks(210, chain(39) + "whole w39{part x:w0;}");
        DUE.checks(0, chain(39) + "part w39{}");
        DUE.checks(2910, chain(39) + "whole w39{part x:w9;}");
    }

    /** Wholes w0, w1 and so on, each within the one before it. */
    private static String chain(int wholes) {
        StringBuilder row = new StringBuilder();
        for (int i = 0; i < wholes; i++) {
            row.append("whole w").append(i).append("{part x:w").append(i + 1).append(";}");
        }
        return row.toString();
    }

    private static void order() {
        DUE.checks(103, "type t=2 to 1 m;unit m=1/1 k;part p{run a;}");
        DUE.checks(204, "part p{run a;}type t=2 to 1 m;");
        DUE.checks(10002, many(99) + "type t=1 to 2 nix;");
        DUE.checks(12002, many(119) + "type t=1 to 2 nix;");
        PartText x = Due.reading("part p{run a;}");
        DUE.is("check twice", 204, x.check());
        DUE.is("check twice", 204, x.check());
        Due.typeAndRead(x, "part p{}");
        DUE.is("check of the next text", 0, x.check());
    }

    private static String many(int units) {
        StringBuilder row = new StringBuilder();
        for (int i = 0; i < units; i++) {
            row.append("unit u").append(i).append("=1/1 k;");
        }
        return row.toString();
    }
}
