/** Promise 3. */
public final class ClearTest extends Programs {
    public static void main(String[] args) {
        Check check = new Check("ClearTest");
        NullKinds x = program(s(1, 0, 1), s(1, 1, 4), s(8, 0, 1), s(21, 0, 0, 0, -1));
        check.due("run", x.run(5, 6), 1);
        check.due("all(0) ahead of it", x.all(0), bits(0, 4));
        check.due("clear()", x.clear(), 4);
        check.due("clear() again", x.clear(), 0);
        for (int what = 0; what <= 4; what++) {
            check.due("ran(" + what + ")", x.ran(what), NullKinds.NOTHING);
        }
        for (int k = 0; k <= 3; k++) {
            check.due("number(" + k + ")", x.number(k), NullKinds.NOTHING);
            check.due("variable(0, " + k + ")", x.variable(0, k), -3);
        }
        check.due("seen", x.seen(0, 0), -1);
        check.due("had", x.had(3), -1);
        check.due("may", x.may(0, 0), -1);
        check.due("faults", x.faults(0), -1);
        check.due("all(0) behind it", x.all(0), 1);
        check.meanThrows("behind clear()", x);
        check.due("run of no steps", x.run(1, 2), 0);
        check.due("its steps", x.ran(0), 0);
        check.due("mean of a run of no steps", x.mean(), 0);
        check.due("clear() of no steps", x.clear(), 0);
        check.meanThrows("behind a clear() of no steps", x);
        check.due("ran(0) behind it", x.ran(0), NullKinds.NOTHING);
        check.due("a step more", x.step(0, 0, 0, 0, -1), 0);
        check.due("nothing was seen of the step there now", x.seen(0, 0), 0);
        check.due("nothing was had by it", x.had(0), 0);
        tellsAnew(check);
        check.end();
    }

    /** Of what was told ahead of the steps before nothing is left. */
    private static void tellsAnew(Check check) {
        NullKinds x = program(s(1, 0, 1), s(6, 0, 3, 0), s(21));
        check.due("cast(1)", x.cast(1), 2);
        check.due("may(1, 0)", x.may(1, 0), bits(1));
        check.due("clear()", x.clear(), 3);
        check.due("step", x.step(23, 0, 0, 0, -1), 0);
        check.due("step", x.step(6, 0, 3, 0, -1), 1);
        check.due("step", x.step(21, 0, 0, 0, -1), 2);
        check.due("cast(1), not come to now", x.cast(1), -3);
        check.due("may(1, 0)", x.may(1, 0), 0);
        check.due("faults(1)", x.faults(1), 0);
        check.due("faults(2)", x.faults(2), 0);
    }
}
