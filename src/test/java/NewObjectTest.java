/** Promise 1, and the constant of the face. */
public final class NewObjectTest {
    public static void main(String[] args) {
        Check check = new Check("NewObjectTest");
        NullKinds x = new NullKinds();
        check.due("NOTHING", NullKinds.NOTHING, Long.MIN_VALUE);
        check.due("seen(0, 0)", x.seen(0, 0), -1);
        check.due("had(0)", x.had(0), -1);
        check.due("may(0, 0)", x.may(0, 0), -1);
        check.due("faults(0)", x.faults(0), -1);
        check.due("cast(0)", x.cast(0), -1);
        for (int what = 0; what <= 4; what++) {
            check.due("ran(" + what + ") before a run", x.ran(what), NullKinds.NOTHING);
        }
        for (int k = 0; k <= 3; k++) {
            check.due("number(" + k + ") before a run", x.number(k), NullKinds.NOTHING);
            check.due("variable(0, " + k + ") before a run", x.variable(0, k), -3);
        }
        for (int what = 0; what <= 2; what++) {
            check.due("all(" + what + ")", x.all(what), 1);
        }
        check.meanThrows("on a new object", x);
        check.due("clear()", x.clear(), 0);
        NullKinds other = new NullKinds();
        check.due("run of no steps", other.run(8, 9), 0);
        check.due("ran(0)", other.ran(0), 0);
        check.due("mean()", other.mean(), 0);
        check.due("number(1)", other.number(1), 9);
        check.due("step on one object", x.step(0, 0, 0, 0, -1), 0);
        check.due("clear() of another object", other.clear(), 0);
        check.end();
    }
}
