/** Promises 5 and 7: what a run tells of itself, and its numbers. */
public final class RanTest extends Programs {
    private static final Check CHECK = new Check("RanTest");

    public static void main(String[] args) {
        NullKinds x = program(s(1, 0, 3), s(17, 0, 1), s(19, 0, 2, 4), s(23, 0), s(21));
        CHECK.due("run that ends", x.run(30, 12), 0);
        ran(x, 4, 42, 0, -3, 1);
        numbers(x, 42, 12, 0, 0);
        CHECK.due("run that is thrown", x.run(-30, 12), 1);
        ran(x, 4, 0, 7, 4, 1);
        numbers(x, -18, 12, 0, 0);
        NullKinds spent = program(s(16, 3, 9), s(20, 0));
        CHECK.due("run that is spent", spent.run(1, 2), 2);
        ran(spent, 200, 0, 0, -3, 0);
        numbers(spent, 1, 2, 0, 9);
        NullKinds made = program(s(2, 0, 9, 0), s(1, 0, 2), s(0, 0));
        CHECK.due("run that makes", made.run(20, 0), 0);
        ran(made, 3, 0, 0, -3, 2);
        CHECK.due("a run anew", made.run(20, 0), 0);
        ran(made, 3, 0, 0, -3, 2);
        NullKinds ends = program(s(23, 1));
        CHECK.due("run to the highest number", ends.run(0, Integer.MAX_VALUE), 0);
        CHECK.due("what it ended with", ends.ran(1), Integer.MAX_VALUE);
        CHECK.due("run to the lowest number", ends.run(0, Integer.MIN_VALUE), 0);
        CHECK.due("what it ended with", ends.ran(1), Integer.MIN_VALUE);
        CHECK.end();
    }

    private static void ran(NullKinds x, long... want) {
        for (int what = 0; what < want.length; what++) {
            CHECK.due("ran(" + what + ")", x.ran(what), want[what]);
        }
        for (int what : new int[] {-1, 5, 6, Integer.MIN_VALUE, Integer.MAX_VALUE}) {
            CHECK.due("ran(" + what + ")", x.ran(what), NullKinds.NOTHING);
        }
    }

    private static void numbers(NullKinds x, long... want) {
        for (int k = 0; k < want.length; k++) {
            CHECK.due("number(" + k + ")", x.number(k), want[k]);
        }
        for (int k : new int[] {-1, 4, 5, Integer.MIN_VALUE, Integer.MAX_VALUE}) {
            CHECK.due("number(" + k + ")", x.number(k), NullKinds.NOTHING);
        }
    }
}
