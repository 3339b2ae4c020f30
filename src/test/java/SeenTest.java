/** Promises 8, 9 and 14: what was seen in all runs behind the latest step(). */
public final class SeenTest extends Programs {
    private static final Check CHECK = new Check("SeenTest");

    public static void main(String[] args) {
        // With N(0) below N(1) V(0) becomes a NAIL, else INTS; then its TAG is asked for.
        NullKinds x = program(s(19, 0, 1, 3), s(2, 0, 5, 0), s(20, 4), s(1, 0, 2), s(11, 3, 0, 0, 6),
                s(5, 0, 0, 6));
        for (int v = 0; v <= 5; v++) {
            CHECK.due("seen before a run", x.seen(4, v), 0);
        }
        CHECK.due("had before a run", x.had(4), 0);
        CHECK.meanThrows("before a run", x);
        CHECK.due("run", x.run(0, 1), 0);
        CHECK.due("seen(0, 0)", x.seen(0, 0), 1);
        CHECK.due("seen(4, 0)", x.seen(4, 0), bits(2));
        CHECK.due("seen(4, 1)", x.seen(4, 1), 1);
        CHECK.due("seen(1, 0) of a step passed by", x.seen(1, 0), 0);
        CHECK.due("had(4)", x.had(4), 0);
        CHECK.due("mean()", x.mean(), 4);
        CHECK.due("run", x.run(1, 0), 0);
        CHECK.due("seen(4, 0) of both runs", x.seen(4, 0), bits(2, 5));
        CHECK.due("had(4) of both runs", x.had(4), bits(2));
        CHECK.due("mean() of 4, 4", x.mean(), 4);
        CHECK.due("run", x.run(-1, -2), 1);
        CHECK.due("had(1) where it was thrown", x.had(1), bits(5));
        CHECK.due("mean() of 4, 4, 2, cut", x.mean(), 3);
        CHECK.due("run", x.run(21, 0), 1);
        CHECK.due("had(1) of both throws", x.had(1), bits(5, 8));
        CHECK.due("mean() of 4, 4, 2, 2", x.mean(), 3);
        wrongPlaces(x);
        spent();
        CHECK.end();
    }

    private static void wrongPlaces(NullKinds x) {
        for (int step : new int[] {-1, 6, 31, 32, Integer.MIN_VALUE, Integer.MAX_VALUE}) {
            CHECK.due("seen(" + step + ", 0)", x.seen(step, 0), -1);
            CHECK.due("had(" + step + ")", x.had(step), -1);
        }
        for (int v : new int[] {-1, 6, Integer.MIN_VALUE, Integer.MAX_VALUE}) {
            CHECK.due("seen(0, " + v + ")", x.seen(0, v), -1);
        }
    }

    private static void spent() {
        // 200 steps are done ahead of the MAKE, which is not begun, then.
        NullKinds x = program(s(17, 3, 0), s(19, 3, 1, 0), s(1, 0, 1), s(1, 0, 2));
        CHECK.due("spent", x.run(1, 100), 2);
        CHECK.due("its steps", x.ran(0), 200);
        CHECK.due("the step that is not done is not seen", x.seen(2, 0), 0);
        CHECK.due("mean()", x.mean(), 200);
        CHECK.due("one less", x.run(1, 99), 0);
        CHECK.due("its steps", x.ran(0), 200);
        CHECK.due("seen now", x.seen(3, 0), bits(1));
        NullKinds ninth = program(s(21, 0, 0, 0, 0));
        CHECK.due("spent", ninth.run(0, 0), 2);
        CHECK.due("the ninth fault was had", ninth.ran(0), 9);
        CHECK.due("had", ninth.had(0), bits(7));
    }
}
