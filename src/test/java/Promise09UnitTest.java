/** Promise 9: by what one unit is the other one, in lowest terms. */
public final class Promise09UnitTest {
    public static void main(String[] args) {
        Due due = new Due();
        PartText x = Due.reading("unit ms=1/1000 time; unit s=1/1 time; part p{} unit km=1000/1 way; unit min=60/1 time;"
            + "unit odd=6/4 time; unit x=9999/1 k; unit y=1/9999 k; unit s=7/1 way; unit z=9998/9999 k;");
        int[][] rows = {{1, 2, 1, 1000}, {2, 1, 1000, 1}, {1, 1, 1, 1}, {4, 1, 60000, 1}, {1, 4, 1, 60000},
            {5, 2, 3, 2}, {2, 5, 2, 3}, {5, 4, 1, 40}, {5, 1, 1500, 1}, {6, 7, 99980001, 1}, {7, 6, 1, 99980001},
            {3, 8, 1000, 7}, {8, 3, 7, 1000}, {9, 9, 1, 1}, {9, 6, 9998, 99980001}, {6, 9, 99980001, 9998},
            {9, 7, 9998, 1}};
        for (int[] row : rows) {
            String call = "unit(" + row[0] + ", " + row[1] + ", ";
            due.is(call + "0)", row[2], x.unit(row[0], row[1], 0));
            due.is(call + "1)", row[3], x.unit(row[0], row[1], 1));
            due.is(call + "-1)", row[3], x.unit(row[0], row[1], -1));
            due.is(call + "most)", row[3], x.unit(row[0], row[1], Integer.MAX_VALUE));
        }
        due.is("two kinds", -3, x.unit(1, 3, 0));
        due.is("two kinds, below", -3, x.unit(3, 1, 1));
        due.is("one name, two kinds", -3, x.unit(2, 8, 0));
        due.is("unit(0, 1, 0)", -1, x.unit(0, 1, 0));
        due.is("unit(1, 0, 0)", -1, x.unit(1, 0, 0));
        due.is("unit(10, 1, 0)", -1, x.unit(10, 1, 0));
        due.is("unit(3, 10, 0)", -1, x.unit(3, 10, 0));
        due.is("unit(-1, -1, 0)", -1, x.unit(-1, -1, 0));
        due.end();
    }
}
