import java.util.Random;

/** No call throws, whatever its arguments and whatever came before it; from the 513th call on any answer will do. */
public final class AnyCallsTest {
    private static final Random RANDOM = new Random(512);
    private static final String TEXT = "unit m=1/1 k;type t=-1 to 2 m;interface f{data d:t;}"
        + "part p{requires i:f;provides o:f;run r on i.d reads i.d writes o.d;}"
        + "whole w{part a:p;part b:p;connect a.o to b.i;connect b.o to a.i;}";

    private final PartText x = new PartText();
    private int calls = 0;

    public static void main(String[] args) {
        Due due = new Due();
        for (int object = 0; object < 2000; object++) {
            new AnyCallsTest().tryCalls(due);
        }
        due.end();
    }

    private void tryCalls(Due due) {
        while (calls < 1000) {
            int answer = answer();
            due.is("an answer", 1, calls > 512 || answer >= -2001 ? 1 : 0);
        }
    }

    private static int any() {
        int[] edges = {0, 1, -1, 2, 3, 5, 8, 9, 119, 120, 121, 1999, 2000, 2001, Integer.MAX_VALUE, Integer.MIN_VALUE};
        return RANDOM.nextInt(4) == 0 ? RANDOM.nextInt() : edges[RANDOM.nextInt(edges.length)];
    }

    private int answer() {
        calls++;
        switch (RANDOM.nextInt(14)) {
            case 0:
                return x.part(any(), any());
            case 1:
                return x.port(any(), any(), any());
            case 2:
                return x.runnable(any(), any(), any());
            case 3:
                return x.connector(any(), any());
            case 4:
                return x.check();
            case 5:
                return x.unit(any(), any(), any());
            case 6:
                return x.print();
            case 7:
                return x.at(any());
            case 8:
                return x.compare(any());
            case 9:
                return x.read();
            case 10:
                String text = RANDOM.nextBoolean() ? TEXT : TEXT.substring(0, RANDOM.nextInt(TEXT.length()));
                Due.type(x, text);
                calls += text.length() / 4;
                return 0;
            default:
                x.sign(RANDOM.nextInt());
                return 0;
        }
    }
}
