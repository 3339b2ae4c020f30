/** Promise 6. */
public final class VariableTest extends Programs {
    private static final Check CHECK = new Check("VariableTest");

    public static void main(String[] args) {
        NullKinds none = new NullKinds();
        CHECK.due("no such variable, ahead of all", none.variable(6, 9), -1);
        CHECK.due("no such variable", none.variable(-1, 0), -1);
        CHECK.due("what out of bounds, ahead of no run", none.variable(5, 4), -2);
        CHECK.due("what out of bounds, below", none.variable(0, -1), -2);
        CHECK.due("no run", none.variable(0, 0), -3);
        NullKinds x = program(s(1, 0, 3), s(2, 1, 6, 0), s(8, 0, 1), s(1, 2, 2), s(2, 4, 9, 1),
                s(3, 5, 4));
        CHECK.due("run", x.run(7, 0), 0);
        row(x, 0, 3, 0, -3, 6);
        row(x, 1, 6, 1, 7, -3);
        row(x, 2, 2, 2, -3, 0);
        row(x, 3, 0, -3, -3, -3);
        row(x, 4, 9, 3, 0, -3);
        row(x, 5, 9, 3, 0, -3);
        CHECK.due("no such variable behind a run", x.variable(6, 0), -1);
        CHECK.due("no such variable behind a run", x.variable(Integer.MIN_VALUE, 4), -1);
        CHECK.due("what out of bounds behind a run", x.variable(0, 4), -2);
        CHECK.due("what out of bounds behind a run", x.variable(0, Integer.MIN_VALUE), -2);
        for (int kind = 1; kind <= 9; kind++) {
            NullKinds one = program(s(kind < 5 ? 1 : 2, 3, kind, 1));
            CHECK.due("run", one.run(0, 20), 0);
            row(one, 3, kind, 0, kind < 5 ? -3 : 20, kind < 5 ? 0 : -3);
        }
        CHECK.end();
    }

    private static void row(NullKinds x, int v, int... want) {
        for (int what = 0; what < want.length; what++) {
            CHECK.due("variable(" + v + ", " + what + ")", x.variable(v, what), want[what]);
        }
    }
}
