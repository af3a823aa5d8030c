/** Promise 8: the first row that breaks a rule, and the least rule that it breaks; each rule is in Terms4RulesTest. */
public final class Promise08CheckTest {
    private static final Due DUE = new Due();
    /** Eight rows. */
    private static final String BASE = "unit m=1/1 way;unit s=1/1 time;type t=1 to 2 m;type u=1 to 2 s;type o=0 to 9 m;"
        + "interface f{data d:t;}";

    public static void main(String[] args) {
        firstRow();
        leastRule();
        none();
        nothingInHand();
        DUE.end();
    }

    private static void firstRow() {
        DUE.sentence("The first ROW that breaks a RULE, times 100, and the least RULE that it breaks");
        DUE.checks(103, "type t=2 to 1 m;unit m=1/1 k;part p{run a;}");
        DUE.checks(204, "part p{run a;}type t=2 to 1 m;");
        DUE.checks(210, "whole w{part a:w;}whole w{}");
        DUE.checks(401, "whole w{part a:p;}whole w{part a:w;}part p{}");
        for (int before : new int[] {0, 1, 8, 9, 10, 98, 99, 100, 118, 119}) {
            DUE.checks((before + 1) * 100 + 2, Due.units(before) + "type t=1 to 2 nix;");
        }
        // A row that breaks a greater rule stands first.
        DUE.checks(302, "whole w{part a:p;part b:nix;}part p{}part p{}");
        PartText x = Due.reading("part p{run a;}");
        DUE.is("check", 204, x.check());
        DUE.is("check once more", 204, x.check());
        Due.typeAndRead(x, "part p{}");
        DUE.is("check of the next text", 0, x.check());
        Due.typeAndRead(x, "part p{run a;");
        DUE.is("check after a fault", 0, x.check());
    }

    /** Rows that break two rules or more. */
    private static void leastRule() {
        DUE.checks(201, "unit m=1/1 k;type m=2 to 1 nix;");
        DUE.checks(202, "unit m=1/1 k;type t=2 to 1 nix;");
        String p = BASE + "part p{requires r:f;provides o:f;";
        DUE.checks(1201, p + "run r reads nix.d;}");
        DUE.checks(1202, p + "run a reads o.d writes nix.d;}");
        DUE.checks(1202, p + "run a on o.d reads r.nix;}");
        DUE.checks(1204, p + "run a reads o.d writes r.d;}");
        DUE.checks(401, "whole w{part a:p;part b:p;part a:w;}part p{}");
        String g = BASE + "interface g{data d:u;data e:t;}interface h{data d:u;}interface i{data d:o;}"
            + "part p{requires r:f;provides o:f;provides a:g;requires b:g;provides c:h;provides d:i;}"
            + "whole w{part x:p;part y:p;";
        DUE.checks(0, g + "connect x.o to x.r;}");
        DUE.checks(3102, g + "connect x.o to x.r;connect x.r to y.nix;}");
        DUE.checks(3105, g + "connect x.o to x.r;connect x.r to x.r;}");
        DUE.checks(3105, g + "connect x.o to x.r;connect x.o to y.c;}");
        DUE.checks(3106, g + "connect x.a to x.b;connect x.c to x.b;}");
        DUE.checks(3107, g + "connect x.o to x.r;connect x.c to x.r;}");
        DUE.checks(3108, g + "connect x.o to x.r;connect x.d to x.r;}");
        DUE.checks(3109, g + "connect x.o to x.r;connect y.o to x.r;}");
    }

    private static void none() {
        DUE.sentence("0 if none does.");
        DUE.checks(0, "");
        DUE.checks(0, "unit a=1/1 k;");
        DUE.checks(0, "interface f{}part p{}whole w{}");
        DUE.checks(0, BASE
            + "part p{provides o:f;requires i:f;keeps k:t;run a on i.d reads i.d writes o.d;run b every 5;}"
            + "whole w{part a:p;part b:p;connect a.o to b.i;connect b.o to a.i;}");
        DUE.checks(0, Due.units(120));
    }

    private static void nothingInHand() {
        DUE.sentence("-3 nothing is IN HAND.");
        PartText x = new PartText();
        DUE.is("a new object", -3, x.check());
        Due.type(x, "part p{}");
        DUE.is("a text that is only typed", -3, x.check());
        x.sign('?');
        x.read();
        DUE.is("a fault", -3, x.check());
        x.read();
        DUE.is("an empty text is in hand", 0, x.check());
    }
}
