/** Terms: the rules 1 to 10, each where it is just kept and just broken, and the sentence under them. */
public final class Terms4RulesTest {
    private static final Due DUE = new Due();
    /** Four rows. */
    private static final String TYPES = "unit m=1/1 way;unit s=1/1 time;type t=1 to 2 m;type u=1 to 2 s;";
    /** Seven rows, with an interface. */
    private static final String BASE = TYPES + "interface f{data d:t;}";

    public static void main(String[] args) {
        earlierRow();
        givenStatements();
        givenMembers();
        meansNothing();
        runMeansNothing();
        connectMeansNothing();
        ranges();
        noTrigger();
        runDirections();
        connectDirections();
        missingData();
        kinds();
        rangeWithin();
        rangeAtItsLimits();
        connectedBefore();
        withinItself();
        keptInRunsAndConnects();
        keptInData();
        keptInWholes();
        DUE.end();
    }

    // Rule 1

    private static void earlierRow() {
        DUE.sentence("RULES for a ROW: 1 a NAME that it gives (the first N; not that of connect) was given by an earlier"
            + " row");
        DUE.checks(301, "part p{}part p{}");
        DUE.checks(501, "part p{}part q{}part p{}");
        DUE.checks(0, "part p{}part q{}");
        DUE.checks(201, "unit m=1/1 k;unit m=2/1 j;");
        // Only the first N gives: a KIND, a unit's or a type's name further on in a row does not.
        DUE.checks(0, "unit k=1/1 k;unit j=1/1 k;");
        DUE.checks(0, "unit a=1/1 k;unit k=1/1 b;unit b=1/1 a;");
        DUE.checks(0, "type t=1 to 2 a;unit a=1/1 t;");
        DUE.checks(0, TYPES + "interface f{data t:t;data f:t;}");
        // A connect gives none.
        String w = BASE + "part p{provides o:f;requires r:f;}whole w{part a:p;part b:p;part c:p;";
        DUE.checks(0, w + "connect a.o to b.r;connect a.o to c.r;}");
        DUE.checks(0, BASE + "part p{provides o:f;requires r:f;}whole w{connect a.o to a.r;part a:p;}");
    }

    private static void givenStatements() {
        DUE.sentence("of unit, type, interface, part, whole by any of these, of a member by one of the same block.");
        String[] statements = {"unit x=1/1 k;", "type x=1 to 2 u;", "interface x{}", "part x{}", "whole x{}"};
        int[] rows = {1, 1, 2, 2, 2};
        for (int i = 0; i < statements.length; i++) {
            DUE.checks(0, "unit u=1/1 k;" + statements[i]);
            for (String second : statements) {
                DUE.checks((rows[i] + 2) * 100 + 1, "unit u=1/1 k;" + statements[i] + second);
            }
        }
        DUE.checks(0, BASE + "part p{keeps x:t;}unit x=1/1 k;");
        DUE.checks(0, BASE + "unit x=1/1 k;part p{keeps x:t;keeps p:t;keeps m:t;keeps f:t;}");
    }

    private static void givenMembers() {
        DUE.checks(701, TYPES + "interface f{data a:t;data a:t;}");
        DUE.checks(801, TYPES + "interface f{data a:t;data b:t;data a:nix;}");
        DUE.checks(0, TYPES + "interface f{data a:t;}interface g{data a:t;data f:t;data g:t;}");
        String[] members = {"provides x:f;", "requires x:f;", "keeps x:t;", "run x every 1;"};
        for (String first : members) {
            DUE.checks(0, BASE + "part p{" + first + "}");
            for (String second : members) {
                DUE.checks(1001, BASE + "part p{" + first + second + "}");
                DUE.checks(0, BASE + "part p{" + first + "}part q{" + second + "}");
            }
        }
        DUE.checks(501, "part p{}whole w{part a:p;part a:p;}");
        DUE.checks(0, "part p{}whole w{part w:p;part p:p;}");
        DUE.checks(0, "part p{}whole w{part a:p;}whole v{part a:p;}");
    }

    // Rule 2

    private static void meansNothing() {
        DUE.sentence("2 another NAME in it means nothing: a unit, a type, an interface, an INNER's PARTS");
        DUE.checks(102, "type t=1 to 2 m;");
        DUE.checks(0, "type t=1 to 2 m;unit m=1/1 k;");
        DUE.checks(202, "unit m=1/1 k;type t=1 to 2 k;");
        DUE.checks(202, "unit m=1/1 k;type t=2 to 1 t;");
        DUE.checks(202, "interface f{data d:t;}");
        DUE.checks(202, "interface f{data d:f;}");
        DUE.checks(202, "part p{keeps d:p;}");
        DUE.checks(602, TYPES + "part p{keeps d:m;}");
        DUE.checks(202, "part p{provides d:p;}");
        DUE.checks(202, "part p{requires d:nix;}");
        DUE.checks(602, TYPES + "part p{requires d:t;}");
        DUE.checks(202, "whole w{part a:nix;}");
        DUE.checks(402, "interface f{}whole w{part a:f;}");
        DUE.checks(0, "whole w{part a:p;part b:v;}part p{provides o:f;}interface f{}whole v{}");
        DUE.checks(0, "unit a=1/1 nix;");
    }

    private static void runMeansNothing() {
        DUE.sentence("of run: a PORT of its part, a datum of that PORT's interface");
        String p = BASE + "interface g{data e:t;}part q{requires n:f;}"
            + "part p{requires r:f;provides o:f;keeps k:t;run x every 1;";
        DUE.checks(0, p + "run a on r.d reads r.d writes o.d;}");
        String[] uses = {"on nix.d", "on r.nix", "on k.d", "on x.d", "on a.d", "on n.d", "on r.e", "on p.d", "on f.d",
            "on r.t", "on r.r", "every 1 reads nix.d", "every 1 reads r.nix", "every 1 writes nix.d",
            "every 1 writes o.nix", "on r.d reads r.d reads r.d writes o.nix", "on r.d reads nix.d writes o.d",
            "on nix.d reads r.d", "reads r.d writes nix.d"};
        for (String use : uses) {
            DUE.checks(1902, p + "run a " + use + ";}");
        }
        DUE.checks(1902, p + "run a on r.d" + " reads r.d".repeat(7) + " reads r.nix;}");
        DUE.checks(0, p + "run a on r.d" + " reads r.d".repeat(7) + " reads r.d;}");
        DUE.checks(0, BASE + "part p{run a on r.d;requires r:f;}");
        DUE.checks(0, "part p{run a on r.d;requires r:f;}" + BASE);
    }

    private static void connectMeansNothing() {
        DUE.sentence("of connect: an INNER of the whole, a PORT of the part that this is of (a whole has none).");
        String w = BASE + "part p{requires r:f;provides o:f;keeps k:t;}whole v{part a:p;part n:p;}"
            + "whole w{part a:p;part b:p;part c:v;";
        DUE.checks(0, w + "connect a.o to b.r;}");
        String[] ends = {"nix.o to b.r", "a.nix to b.r", "a.o to nix.r", "a.o to b.nix", "c.a to b.r", "a.o to c.r",
            "c.o to b.r", "a.o to c.a", "p.o to b.r", "w.o to b.r", "a.d to b.r", "a.k to b.r", "a.o to b.k",
            "n.o to b.r", "a.o to n.r"};
        for (String end : ends) {
            DUE.checks(2102, w + "connect " + end + ";}");
        }
        DUE.checks(0, BASE + "whole w{connect a.o to b.r;part b:p;part a:p;}part p{requires r:f;provides o:f;}");
        DUE.checks(202, "whole w{connect a.o to a.r;part a:w;}");
    }

    // Rules 3 and 4

    private static void ranges() {
        DUE.sentence("3 type: the first V is above the second one.");
        String[] kept = {"1 to 1", "1 to 2", "-2 to -1", "-1 to -1", "-1 to 0", "-1 to 1", "0 to 0", "-0 to 0", "0 to -0",
            "009 to 10", "-999999 to 999999", "999999 to 999999", "-999999 to -999998"};
        String[] broken = {"2 to 1", "-1 to -2", "0 to -1", "1 to 0", "1 to -1", "999999 to 999998", "010 to 9",
            "999999 to -999999", "1 to -000"};
        for (String range : kept) {
            DUE.checks(0, "unit m=1/1 k;type t=" + range + " m;");
        }
        for (String range : broken) {
            DUE.checks(203, "unit m=1/1 k;type t=" + range + " m;");
        }
    }

    private static void noTrigger() {
        DUE.sentence("4 run: no TRIGGER.");
        String p = BASE + "part p{requires r:f;provides o:f;";
        DUE.checks(1104, p + "run a;}");
        DUE.checks(1104, p + "run a reads r.d;}");
        DUE.checks(1104, p + "run a writes o.d;}");
        DUE.checks(1104, p + "run a reads o.d writes r.d;}");
        DUE.checks(0, p + "run a on r.d;}");
        DUE.checks(0, p + "run a every 1;}");
        DUE.checks(0, p + "run a every 999999 reads r.d writes o.d;}");
    }

    // Rule 5

    private static void runDirections() {
        DUE.sentence("5 run: on or reads with a PORT that is provided, writes with one that is required");
        String p = BASE + "part p{requires r:f;provides o:f;";
        DUE.checks(0, p + "run a on r.d reads r.d writes o.d;}");
        String[] uses = {"on o.d", "every 1 reads o.d", "every 1 writes r.d", "on r.d reads r.d writes r.d",
            "on o.d reads r.d writes o.d", "on r.d reads o.d writes o.d", "every 1 writes o.d writes r.d reads r.d"};
        for (String use : uses) {
            DUE.checks(1105, p + "run a " + use + ";}");
        }
        DUE.checks(1105, p + "run a on r.d" + " reads r.d".repeat(7) + " reads o.d;}");
    }

    private static void connectDirections() {
        DUE.sentence("connect: the first PORT is required or the second one provided.");
        String w = BASE + "interface g{data e:t;}part p{requires r:f;provides o:f;provides u:g;requires v:g;}"
            + "whole w{part a:p;part b:p;";
        DUE.checks(0, w + "connect a.o to b.r;connect a.u to b.v;}");
        DUE.checks(0, w + "connect a.o to a.r;}");
        String[] ends = {"a.r to b.r", "a.o to b.o", "a.r to b.o", "a.r to a.r", "a.o to a.o", "a.r to b.u", "a.v to b.r"};
        for (String end : ends) {
            DUE.checks(2005, w + "connect " + end + ";}");
        }
    }

    // Rules 6 to 8

    /** Row 7 connects a port of interface f to one of interface g, which stand behind it. */
    private static String wired(String f, String g) {
        return "part p{provides o:f;requires r:g;}whole w{part a:p;connect a.o to a.r;}"
            + "interface f{" + f + "}interface g{" + g + "}";
    }

    private static void missingData() {
        DUE.sentence("6 connect: some data ROW of the second PORT's interface has a NAME that means nothing in the first"
            + " one's.");
        DUE.checks(0, wired("", "") + TYPES);
        DUE.checks(0, wired("data b:t;", "") + TYPES);
        DUE.checks(0, wired("data a:u;data b:t;data c:u;", "data b:t;") + TYPES);
        DUE.checks(0, wired("data b:t;data a:t;", "data a:t;data b:t;") + TYPES);
        DUE.checks(706, wired("", "data b:t;") + TYPES);
        DUE.checks(706, wired("data a:t;", "data b:t;") + TYPES);
        DUE.checks(706, wired("data a:t;data b:t;", "data c:t;data a:t;data b:t;") + TYPES);
        DUE.checks(706, wired("data a:t;data b:t;", "data a:t;data c:t;data b:t;") + TYPES);
        DUE.checks(706, wired("data a:t;data b:t;", "data a:t;data b:t;data c:t;") + TYPES);
        // A row before it breaks a greater rule.
        DUE.checks(706, wired("data a:u;", "data a:t;data b:t;") + TYPES);
        DUE.checks(706, wired("data a:o;", "data a:t;data b:t;") + TYPES + "type o=0 to 9 m;");
    }

    private static void kinds() {
        DUE.sentence("7 connect: the types of such a ROW and of what its NAME means there have units of two KINDS.");
        String types = TYPES + "unit way=1/1 k;unit n=1/1 way;type x=1 to 2 n;type o=0 to 9 m;";
        DUE.checks(707, wired("data a:u;", "data a:t;") + types);
        DUE.checks(707, wired("data a:t;", "data a:u;") + types);
        DUE.checks(0, wired("data a:u;", "data a:u;") + types);
        DUE.checks(0, wired("data a:x;", "data a:t;") + types);
        DUE.checks(0, wired("data a:t;", "data a:x;") + types);
        DUE.checks(707, wired("data a:t;data b:t;data c:u;", "data a:t;data b:t;data c:t;") + types);
        DUE.checks(707, wired("data a:o;data b:u;", "data a:t;data b:t;") + types);
        DUE.checks(707, wired("data b:u;data a:o;", "data b:t;data a:t;") + types);
        DUE.checks(0, wired("data b:u;data a:t;", "data a:t;") + types);
    }

    private static void rangeWithin() {
        DUE.sentence("8 connect: the range of the type there (of the first PORT) is not within that of such a ROW");
        String types = TYPES + "type same=1 to 2 m;type wide=0 to 3 m;type low=0 to 2 m;type high=1 to 3 m;"
            + "type one=1 to 1 m;type off=3 to 4 m;type minus=-2 to -1 m;type less=-3 to -1 m;";
        inRange(0, types, "t same", "t wide", "t low", "t high", "one t", "one low", "minus less", "off off");
        inRange(708, types, "wide t", "low t", "high t", "off t", "t off", "low high", "high low", "less minus", "minus t");
        DUE.checks(708, wired("data a:t;data b:t;data c:wide;", "data a:t;data b:t;data c:t;") + types);
        DUE.checks(708, wired("data a:wide;data b:t;data c:t;", "data a:t;data b:t;data c:t;") + types);
        // The name means the first datum of f; of g each row is looked at.
        DUE.checks(1101, wired("data a:t;data a:wide;", "data a:t;") + types);
        DUE.checks(708, wired("data a:wide;data a:t;", "data a:t;") + types);
        DUE.checks(708, wired("data a:wide;", "data a:wide;data a:t;") + types);
    }

    /** Each pair is the type of the first port's datum and that of the second one's. */
    private static void inRange(int want, String types, String... pairs) {
        for (String pair : pairs) {
            String[] both = pair.split(" ");
            DUE.checks(want, wired("data a:" + both[0] + ";", "data a:" + both[1] + ";") + types);
        }
    }

    private static void rangeAtItsLimits() {
        DUE.sentence("each V being times the first Z of its unit over the second Z.");
        String types = "unit m=1/1 way;unit km=1000/1 way;unit third=1/3 way;unit two=2/3 way;unit mm=1/1000 way;"
            + "type near=-1000 to 1000 m;type far=-1 to 1 km;type over=-1000 to 1001 m;type under=-1001 to 1000 m;"
            + "type ta=3 to 6 third;type tb=1 to 2 m;type tc=2 to 6 third;type td=3 to 7 third;type te=3 to 3 two;"
            + "type tf=2 to 2 m;type tg=1999 to 2000 mm;type th=2000 to 2001 mm;type ti=2000 to 2000 mm;"
            + "type tj=-999999 to 999999 mm;";
        inRange(0, types, "near far", "far near", "ta tb", "tb ta", "tb tc", "tb td", "ta tc", "te tf", "tf te", "tf tg",
            "tf th", "tf ti", "ti tf", "ti te", "te ti", "tj far");
        inRange(708, types, "over far", "under far", "far tj", "tc tb", "td tb", "tg tf", "th tf", "tg te", "th te");
        String large = "unit x=9999/1 k;unit y=9998/1 k;unit z=1/9999 k;type a=-999999 to 999999 x;"
            + "type b=-999999 to 999999 y;type c=-999999 to 999999 z;type d=-999998 to 999999 x;";
        DUE.checks(0, wired("data d:b;", "data d:a;") + large);
        DUE.checks(708, wired("data d:a;", "data d:b;") + large);
        DUE.checks(0, wired("data d:c;", "data d:a;") + large);
        DUE.checks(708, wired("data d:a;", "data d:c;") + large);
        DUE.checks(0, wired("data d:d;", "data d:a;") + large);
        DUE.checks(708, wired("data d:a;", "data d:d;") + large);
    }

    // Rules 9 and 10

    private static void connectedBefore() {
        DUE.sentence("9 connect: the second INNER's PORT had an earlier connect in this whole.");
        String w = BASE + "part p{provides o:f;requires r:f;provides q:f;requires s:f;}whole w{part a:p;part b:p;";
        DUE.checks(0, w + "connect a.o to b.r;connect a.o to a.r;connect a.o to b.s;connect a.o to a.s;}");
        DUE.checks(1809, w + "connect a.o to b.r;connect a.o to b.r;}");
        DUE.checks(1809, w + "connect a.o to b.r;connect b.q to b.r;}");
        DUE.checks(1909, w + "connect a.o to b.r;connect b.q to b.s;connect b.q to b.r;}");
        DUE.checks(0, w + "connect a.o to b.r;}whole v{part a:p;part b:p;connect a.o to b.r;}");
        DUE.checks(0, "whole v{part a:p;part b:p;connect a.o to b.r;}" + w + "connect a.o to b.r;}");
        DUE.checks(2309, w + "connect a.o to b.r;}whole v{part b:p;part a:p;connect a.o to b.r;connect b.o to b.r;}");
        // Rule 8 is the lesser one.
        String twice = "connect a.o to a.r;connect a.o to a.r;";
        DUE.checks(809, wired("data d:t;", "data d:t;").replace("connect a.o to a.r;", twice) + TYPES);
        DUE.checks(708, wired("data d:o;", "data d:t;").replace("connect a.o to a.r;", twice) + TYPES + "type o=0 to 9 m;");
    }

    private static void withinItself() {
        DUE.sentence("10 part: an INNER of a whole means that whole, or one in which it is, over INNERS.");
        DUE.checks(210, "whole a{part x:a;}");
        DUE.checks(310, "whole a{part x:b;part y:a;}whole b{}");
        DUE.checks(210, "whole a{part x:b;}whole b{part x:a;}");
        DUE.checks(210, "whole a{part x:b;}whole b{part y:p;part x:c;}whole c{part x:a;part y:p;}part p{}");
        DUE.checks(510, "whole a{part x:b;}whole b{part x:b;}");
        DUE.checks(510, "whole a{part x:b;}whole b{part x:c;}whole c{part x:b;}");
        DUE.checks(0, "whole a{part x:b;part y:c;}whole b{part x:c;part y:c;}whole c{part x:p;}part p{}");
        DUE.checks(0, "whole a{part x:p;}part p{}whole b{part x:a;part y:a;}");
        DUE.checks(410, "part p{}whole a{part x:a;}");
        // What was reached from an INNER before counts for that one alone.
        DUE.checks(0, "whole a{part x:b;}whole b{part y:p;part z:c;}whole c{part w:p;}part p{}");
        DUE.checks(210, chain(39) + "whole w39{part x:w0;}");
        DUE.checks(0, chain(39) + "part w39{}");
        DUE.checks(2910, chain(39) + "whole w39{part x:w9;}");
        DUE.checks(11910, chain(39) + "whole w39{part x:w39;}");
        // The second a is another whole than the first one.
        DUE.checks(401, "whole a{part x:p;}whole a{part x:a;}part p{}");
        DUE.checks(601, "whole a{part x:b;}whole b{}whole b{part x:a;}");
    }

    /** Wholes w0, w1 and so on, each within the one before it. */
    private static String chain(int wholes) {
        StringBuilder rows = new StringBuilder();
        for (int i = 0; i < wholes; i++) {
            rows.append("whole w").append(i).append("{part x:w").append(i + 1).append(";}");
        }
        return rows.toString();
    }

    // The sentence under them: the row that has the name which means nothing is told, further on

    private static void keptInRunsAndConnects() {
        DUE.sentence("Where a RULE looks at something that means nothing (or something in it does) it is kept.");
        // Rule 2: a datum of an interface, and a PORT of a part, that mean nothing.
        DUE.checks(302, "part p{run a on r.d;requires r:nix;}");
        DUE.checks(402, "part p{run a every 1 reads r.d writes o.e;requires r:f;provides o:nix;}interface f{data d:t;}"
            + TYPES);
        DUE.checks(302, "whole w{connect a.o to b.r;part a:nix;part b:nix;}");
        DUE.checks(302, "whole w{connect a.o to b.r;part a:nix;part b:p;}part p{requires r:f;}interface f{}");
        DUE.checks(302, "whole w{connect b.o to a.r;part a:nix;part b:p;}part p{provides o:f;}interface f{}");
        // What it has not looked for in vain, it tells.
        DUE.checks(202, "whole w{connect a.o to b.r;part a:nix;}");
        DUE.checks(202, "whole w{connect b.r to a.o;part a:nix;}");
        DUE.checks(202, "whole w{connect a.o to b.nix;part a:nix;part b:p;}part p{requires r:f;}interface f{}");
        DUE.checks(202, "part p{run a on r.d reads s.d;requires r:nix;}");
        // Rule 9: the same PORT twice, of a part that means nothing.
        DUE.checks(402, "whole w{connect a.o to b.r;connect a.o to b.r;part b:nix;part a:p;}part p{provides o:f;}"
            + "interface f{}");
    }

    private static void keptInData() {
        // Rules 6 to 8: an interface, a type, a unit that means nothing.
        String ports = "whole w{part a:p;connect a.o to a.r;}part p{provides o:f;requires r:g;}";
        DUE.checks(702, ports + "interface f{data d:t;}" + TYPES);
        DUE.checks(602, ports + "interface g{data d:t;}" + TYPES);
        DUE.checks(602, ports);
        DUE.checks(1002, wired("data a:nix;", "data a:t;") + TYPES);
        DUE.checks(1302, wired("data a:t;", "data a:nix;") + TYPES);
        DUE.checks(1002, wired("data a:nix;", "data a:nix;") + TYPES);
        DUE.checks(1502, wired("data a:v;", "data a:t;") + "type v=0 to 99 nix;" + TYPES);
        DUE.checks(1502, wired("data a:t;", "data a:v;") + "type v=0 to 99 nix;" + TYPES);
        DUE.checks(1502, wired("data a:v;", "data a:w;") + "type v=0 to 99 nix;type w=1 to 2 nix;" + TYPES);
        // Another row of the same interface is told none the less.
        DUE.checks(706, wired("data a:nix;", "data a:t;data b:t;") + TYPES);
        DUE.checks(707, wired("data a:nix;data b:u;", "data a:t;data b:t;") + TYPES);
        DUE.checks(708, wired("data a:nix;data b:t;", "data a:t;data b:o;") + "type o=2 to 2 m;" + TYPES);
    }

    private static void keptInWholes() {
        // Rule 10: an INNER on the way that means nothing.
        DUE.checks(502, "whole a{part x:b;}whole b{part x:nix;}");
        DUE.checks(210, "whole a{part x:b;}whole b{part y:nix;part x:a;}");
    }
}
