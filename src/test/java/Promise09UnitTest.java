/** Promise 9: by what one unit is the other one, in lowest terms. */
public final class Promise09UnitTest {
    private static final Due DUE = new Due();
    private static final String TEXT = "unit ms=1/1000 time; unit s=1/1 time; part p{} unit km=1000/1 way;"
        + " unit min=60/1 time; unit odd=6/4 time; unit x=9999/1 k; unit y=1/9999 k; unit s=7/1 way; unit z=9998/9999 k;"
        + " unit same=9999/9999 k;";

    public static void main(String[] args) {
        lowestTerms();
        sides();
        refused();
        DUE.end();
    }

    private static void lowestTerms() {
        DUE.sentence("By what one unit (numbered from 1 on) is the other one, in lowest terms: (the first Z over the second"
            + " Z of from) over that of to");
        PartText x = Due.reading(TEXT);
        int[][] rows = {{1, 2, 1, 1000}, {2, 1, 1000, 1}, {1, 1, 1, 1}, {4, 1, 60000, 1}, {1, 4, 1, 60000},
            {5, 2, 3, 2}, {2, 5, 2, 3}, {5, 4, 1, 40}, {5, 1, 1500, 1}, {6, 7, 99980001, 1}, {7, 6, 1, 99980001},
            {3, 8, 1000, 7}, {8, 3, 7, 1000}, {9, 9, 1, 1}, {9, 6, 9998, 99980001}, {6, 9, 99980001, 9998},
            {9, 7, 9998, 1}, {7, 9, 1, 9998}, {10, 10, 1, 1}, {10, 6, 1, 9999}, {10, 9, 9999, 9998}};
        for (int[] row : rows) {
            String call = "unit(" + row[0] + ", " + row[1] + ", ";
            DUE.is(call + "0)", row[2], x.unit(row[0], row[1], 0));
            DUE.is(call + "1)", row[3], x.unit(row[0], row[1], 1));
        }
        PartText full = Due.reading("unit a=1/1 k;".repeat(119) + "unit b=3/6 k;");
        DUE.is("unit(119, 120, 0)", 2, full.unit(119, 120, 0));
        DUE.is("unit(120, 119, 1)", 2, full.unit(120, 119, 1));
        DUE.is("unit(1, 121, 0)", -1, full.unit(1, 121, 0));
        manyRatios();
    }

    private static void manyRatios() {
        int[] sizes = {1, 2, 3, 4, 6, 12, 35, 64, 97, 360, 1024, 6561, 9240, 9973, 9999};
        for (int a : sizes) {
            for (int b : sizes) {
                PartText x = Due.reading("unit a=" + a + "/" + b + " k;unit b=" + b + "/360 k;");
                int above = a * 360;
                int below = b * b;
                int common = common(above, below);
                DUE.is(a + "/" + b + " over " + b + "/360, above", above / common, x.unit(1, 2, 0));
                DUE.is(a + "/" + b + " over " + b + "/360, below", below / common, x.unit(1, 2, 1));
            }
        }
    }

    private static int common(int a, int b) {
        int found = 1;
        for (int i = 2; i <= a && i <= b; i++) {
            if (a % i == 0 && b % i == 0) {
                found = i;
            }
        }
        return found;
    }

    private static void sides() {
        DUE.sentence("side 0 what is above, others what is below.");
        PartText x = Due.reading(TEXT);
        DUE.is("side 0", 3, x.unit(5, 2, 0));
        for (int side : new int[] {1, 2, -1, 3, 256, Integer.MIN_VALUE, Integer.MAX_VALUE}) {
            DUE.is("side " + side, 2, x.unit(5, 2, side));
        }
    }

    private static void refused() {
        DUE.sentence("-1 there is no such unit, -3 they are of two KINDS.");
        PartText x = Due.reading(TEXT);
        for (int i : new int[] {0, 11, 12, -1, Integer.MIN_VALUE, Integer.MAX_VALUE}) {
            for (int side = 0; side <= 1; side++) {
                DUE.is("unit(" + i + ", 1, " + side + ")", -1, x.unit(i, 1, side));
                DUE.is("unit(3, " + i + ", " + side + ")", -1, x.unit(3, i, side));
                DUE.is("unit(" + i + ", " + i + ", " + side + ")", -1, x.unit(i, i, side));
            }
        }
        for (int side = -1; side <= 2; side++) {
            DUE.is("two KINDS, side " + side, -3, x.unit(1, 3, side));
            DUE.is("two KINDS the other way, side " + side, -3, x.unit(3, 1, side));
            DUE.is("one NAME, two KINDS, side " + side, -3, x.unit(2, 8, side));
        }
        DUE.is("a KIND that is a unit's name", -3, Due.reading("unit a=1/1 b;unit b=1/1 a;").unit(1, 2, 0));
        DUE.is("no unit at all", -1, Due.reading("part p{}").unit(1, 1, 0));
        DUE.is("nothing in hand", -1, new PartText().unit(1, 1, 0));
    }
}
