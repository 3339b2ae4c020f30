/** Boundary cases of promises 4 to 9 and 14. A method a sentence. */
public final class RunsBoundsTest extends Programs {
    private static final Check CHECK = new Check("RunsBoundsTest");
    private static final int LOWEST = Integer.MIN_VALUE;
    private static final int HIGHEST = Integer.MAX_VALUE;
    private static final long NOTHING = NullKinds.NOTHING;
    private static final int[] NO_VARIABLES = {LOWEST, -7, -1, 6, 7, HIGHEST};

    public static void main(String[] args) {
        runAnswers();
        ranOfTheLatest();
        ranNothing();
        variableOfTheLatest();
        variableIsNotSo();
        variableInOrder();
        numberOfTheLatest();
        numberNothing();
        seenAsBegun();
        seenNoSuch();
        hadFaults();
        hadNoSuch();
        meanIsCut();
        meanOfNone();
        CHECK.end();
    }

    private static NullKinds ran(int x, int y, int answer, int[]... steps) {
        NullKinds n = program(steps);
        CHECK.due("run(" + x + ", " + y + ")", n.run(x, y), answer);
        return n;
    }

    private static void runAnswers() {
        CHECK.says("A RUN with N(0), N(1): 0 it ENDED, 1 THROWN, 2 SPENT.");
        NullKinds n = program(s(19, 0, 1, 2), s(23, 0), s(19, 0, 2, 2), s(21));
        CHECK.due("ENDED", n.run(HIGHEST, LOWEST), 0);
        CHECK.due("ENDED with", n.ran(1), HIGHEST);
        CHECK.due("THROWN", n.run(0, HIGHEST), 1);
        CHECK.due("SPENT", n.run(LOWEST, HIGHEST), 2);
        CHECK.due("ENDED", n.run(LOWEST, LOWEST), 0);
        CHECK.due("ENDED with", n.ran(1), LOWEST);
        CHECK.due("no STEPS", new NullKinds().run(LOWEST, HIGHEST), 0);
    }

    private static void ranIs(NullKinds n, long... due) {
        for (int what = 0; what < due.length; what++) {
            CHECK.due("ran(" + what + ")", n.ran(what), due[what]);
        }
    }

    private static void ranOfTheLatest() {
        CHECK.says("Of the latest RUN: 0 STEPS done, 1 what it ENDED with (else 0), 2 the FAULT by which it was THROWN (0), "
                + "3 the STEP that had it (-3), 4 OBJECTS made.");
        ranIs(ran(5, 6, 0), 0, 0, 0, -3, 0);
        ranIs(ran(5, 6, 1, s(21)), 1, 0, 7, 0, 0);
        ranIs(ran(5, 6, 0, s(23, 0)), 1, 5, 0, -3, 0);
        ranIs(ran(5, 6, 2, s(20, 0)), 200, 0, 0, -3, 0);
        ranIs(ran(0, 0, 0, makes(40)), 122, 0, 0, -3, 40);
        NullKinds n = program(s(1, 0, 1), s(19, 0, 1, 5), s(18, 0, 1, 0, 3), s(1, 0, 1), s(23, 0), s(21));
        CHECK.due("run", n.run(0, 1), 1);
        ranIs(n, 3, 0, 7, 5, 1);
        CHECK.due("run", n.run(7, 2), 0);
        ranIs(n, 5, 3, 0, -3, 2);
        CHECK.due("run with a FAULT that is handled", n.run(7, 0), 0);
        ranIs(n, 5, 7, 0, -3, 2);
        CHECK.due("run", n.run(0, 1), 1);
        ranIs(n, 3, 0, 7, 5, 1);
    }

    private static void ranNothing() {
        CHECK.says("NOTHING: another what, there was none.");
        NullKinds none = program(s(21));
        NullKinds n = ran(0, 0, 1, s(21));
        for (int what : new int[] {LOWEST, -1, 5, 6, HIGHEST}) {
            CHECK.due("ran(" + what + ")", n.ran(what), NOTHING);
            CHECK.due("ran(" + what + ") of none", none.ran(what), NOTHING);
        }
        for (int what = 0; what <= 4; what++) {
            CHECK.due("ran(" + what + ") of none", none.ran(what), NOTHING);
        }
        CHECK.due("NOTHING", NOTHING, Long.MIN_VALUE);
    }

    private static void variableIs(NullKinds n, int v, int... due) {
        for (int what = 0; what < due.length; what++) {
            CHECK.due("variable(" + v + ", " + what + ")", n.variable(v, what), due[what]);
        }
    }

    private static void variableOfTheLatest() {
        CHECK.says("Of a VARIABLE behind the latest RUN: 0 its KIND");
        NullKinds n = program(s(19, 0, 1, 2), get(0, 9), get(5, 3), s(8, 5, 0), s(21));
        CHECK.due("run", n.run(20, 20), 1);
        variableIs(n, 0, 9, 0, 20, -3);
        variableIs(n, 5, 3, 1, -3, 9);
        CHECK.due("run", n.run(19, 20), 1);
        variableIs(n, 0, 0, -3, -3, -3);
        variableIs(n, 5, 3, 0, -3, 0);
        NullKinds spent = ran(0, 0, 2, s(1, 0, 4), s(20, 1));
        variableIs(spent, 0, 4, 0, -3, 0);
    }

    private static void variableIsNotSo() {
        CHECK.says("1 the OBJECT's number (-3: nothing), 2 LENGTH (-3: no array), 3 the KIND of its NEXT (-3: no thing)");
        for (int v = 0; v <= 5; v++) {
            for (int kind = 0; kind <= 9; kind++) {
                NullKinds n = ran(0, 0, 0, s(1, 0, 1), s(0, 0), get(v, kind));
                variableIs(n, v, kind, kind == 0 ? -3 : 1, kind < 5 ? -3 : 0, kind == 0 || kind > 4 ? -3 : 0);
            }
        }
        NullKinds last = ran(0, 20, 0, join(makes(39), get(0, 5), s(8, 5, 0)));
        variableIs(last, 0, 5, 39, 20, -3);
        variableIs(last, 5, 1, 38, -3, 5);
    }

    private static void variableInOrder() {
        CHECK.says("-1; -2; -3 there was none.");
        NullKinds none = program(s(1, 0, 1));
        NullKinds n = ran(0, 0, 0, s(1, 0, 1));
        for (int v : NO_VARIABLES) {
            for (int what : new int[] {LOWEST, -1, 0, 3, 4, HIGHEST}) {
                CHECK.due("variable(" + v + ", " + what + ")", n.variable(v, what), -1);
                CHECK.due("variable(" + v + ", " + what + ") of none", none.variable(v, what), -1);
            }
        }
        for (int v = 0; v <= 5; v++) {
            for (int what : new int[] {LOWEST, -1, 4, 5, HIGHEST}) {
                CHECK.due("variable(" + v + ", " + what + ")", n.variable(v, what), -2);
                CHECK.due("variable(" + v + ", " + what + ") of none", none.variable(v, what), -2);
            }
            for (int what = 0; what <= 3; what++) {
                CHECK.due("variable(" + v + ", " + what + ") of none", none.variable(v, what), -3);
            }
        }
    }

    private static void numberOfTheLatest() {
        CHECK.says("A NUMBER behind the latest RUN.");
        NullKinds n = program(s(16, 2, HIGHEST), s(16, 3, LOWEST));
        CHECK.due("run", n.run(LOWEST, HIGHEST), 0);
        CHECK.due("number(0)", n.number(0), LOWEST);
        CHECK.due("number(1)", n.number(1), HIGHEST);
        CHECK.due("number(2)", n.number(2), HIGHEST);
        CHECK.due("number(3)", n.number(3), LOWEST);
        CHECK.due("run", n.run(0, -1), 0);
        CHECK.due("number(0)", n.number(0), 0);
        CHECK.due("number(1)", n.number(1), -1);
        CHECK.due("behind one that was THROWN", ran(4, 5, 1, s(16, 3, 9), s(21)).number(3), 9);
        CHECK.due("behind one that was SPENT", ran(4, 5, 2, s(16, 3, 9), s(20, 0)).number(3), 9);
    }

    private static void numberNothing() {
        CHECK.says("NOTHING: no such one, or RUN.");
        NullKinds none = new NullKinds();
        NullKinds n = ran(0, 0, 0);
        for (int k : new int[] {LOWEST, -1, 4, 5, HIGHEST}) {
            CHECK.due("number(" + k + ")", n.number(k), NOTHING);
            CHECK.due("number(" + k + ") of none", none.number(k), NOTHING);
        }
        for (int k = 0; k <= 3; k++) {
            CHECK.due("number(" + k + ") of none", none.number(k), NOTHING);
        }
    }

    private static void seenAsBegun() {
        CHECK.says("KINDS, as bits, that a VARIABLE had as a STEP was begun, in all RUNS behind the latest step().");
        for (int kind = 0; kind <= 9; kind++) {
            NullKinds n = program(get(5, kind), s(0, 5), s(21));
            CHECK.due("seen(1, 5) of no RUN", n.seen(1, 5), 0);
            CHECK.due("run", n.run(0, 0), 1);
            CHECK.due("seen(0, 5), ahead of what it does", n.seen(0, 5), bits(0));
            CHECK.due("seen(1, 5)", n.seen(1, 5), bits(kind));
            CHECK.due("seen(2, 5)", n.seen(2, 5), bits(0));
        }
        NullKinds runs = program(s(19, 0, 1, 3), get(0, 9), s(20, 4), s(1, 0, 1), s(16, 3, 1));
        CHECK.due("run", runs.run(0, 1), 0);
        CHECK.due("run", runs.run(1, 0), 0);
        CHECK.due("seen(4, 0) of both RUNS", runs.seen(4, 0), bits(1, 9));
        CHECK.due("run that is THROWN ahead of it", runs.run(1, -1), 1);
        CHECK.due("seen(4, 0) as before", runs.seen(4, 0), bits(1, 9));
        NullKinds both = program(s(5, 0, 0, 2), s(23), s(1, 0, 4), s(20, 0));
        CHECK.due("run", both.run(0, 0), 0);
        CHECK.due("seen twice in one RUN", both.seen(0, 0), bits(0, 4));
    }

    private static void seenNoSuch() {
        CHECK.says("behind the latest step(). -1.");
        NullKinds n = ran(0, 0, 0, s(1, 0, 1), s(1, 1, 1));
        for (int step : new int[] {LOWEST, -1, 2, 31, 32, HIGHEST}) {
            for (int v : new int[] {LOWEST, -1, 0, 5, 6, HIGHEST}) {
                CHECK.due("seen(" + step + ", " + v + ")", n.seen(step, v), -1);
            }
        }
        for (int v : NO_VARIABLES) {
            CHECK.due("seen(0, " + v + ")", n.seen(0, v), -1);
            CHECK.due("seen(1, " + v + ")", n.seen(1, v), -1);
        }
        for (int v = 0; v <= 5; v++) {
            CHECK.due("seen(1, " + v + ")", n.seen(1, v), bits(v == 0 ? 1 : 0));
        }
    }

    private static void hadFaults() {
        CHECK.says("FAULTS, as bits, that a STEP had, likewise.");
        NullKinds n = program(s(2, 0, 5, 0, 1), s(18, 0, 1));
        CHECK.due("had(0) of no RUN", n.had(0), 0);
        CHECK.due("run with none", n.run(20, 1), 0);
        CHECK.due("had(0)", n.had(0), 0);
        CHECK.due("run with 8", n.run(21, 1), 0);
        CHECK.due("had(0)", n.had(0), bits(8));
        CHECK.due("run with 5, 6", n.run(-1, 0), 1);
        CHECK.due("had(0)", n.had(0), bits(5, 8));
        CHECK.due("had(1)", n.had(1), bits(6));
        CHECK.due("step", n.step(21, 0, 0, 0, -1), 2);
        CHECK.due("had(0) behind step()", n.had(0), 0);
        CHECK.due("had(1) behind step()", n.had(1), 0);
        CHECK.due("had(2), not had yet", n.had(2), 0);
    }

    private static void hadNoSuch() {
        CHECK.says("likewise. -1.");
        NullKinds n = ran(0, 0, 1, s(16), s(21));
        for (int step : new int[] {LOWEST, -1, 2, 31, 32, HIGHEST}) {
            CHECK.due("had(" + step + ")", n.had(step), -1);
        }
        CHECK.due("had(1)", n.had(1), bits(7));
        NullKinds full = full();
        CHECK.due("had(31)", full.had(31), 0);
        CHECK.due("had(32)", full.had(32), -1);
    }

    private static void meanIsCut() {
        CHECK.says("STEPS done in all RUNS behind the latest step(), by how many these were, cut.");
        NullKinds n = program(s(19, 0, 1, 2), s(16, 3, 1));
        CHECK.due("run of 1", n.run(0, 1), 0);
        CHECK.due("mean of 1", n.mean(), 1);
        CHECK.due("run of 2", n.run(0, 0), 0);
        CHECK.due("mean of 1, 2", n.mean(), 1);
        CHECK.due("run of 2", n.run(0, 0), 0);
        CHECK.due("mean of 1, 2, 2", n.mean(), 1);
        CHECK.due("step", n.step(16, 3, 1, 0, -1), 2);
        CHECK.due("run of 2", n.run(0, 1), 0);
        CHECK.due("mean of those behind step()", n.mean(), 2);
        CHECK.due("a refused step()", n.step(24, 0, 0, 0, -1), -2);
        CHECK.due("mean behind it", n.mean(), 2);
        NullKinds spent = program(s(19, 0, 1, 0));
        CHECK.due("run of 1", spent.run(0, 0), 0);
        CHECK.due("run of 200", spent.run(0, 1), 2);
        CHECK.due("mean of 1, 200", spent.mean(), 100);
        NullKinds none = new NullKinds();
        CHECK.due("run of 0", none.run(0, 0), 0);
        CHECK.due("mean of 0", none.mean(), 0);
    }

    private static void meanOfNone() {
        CHECK.says("ArithmeticException: none was.");
        NullKinds n = new NullKinds();
        CHECK.meanThrows("on a new object", n);
        CHECK.due("step", n.step(21, 0, 0, 0, -1), 0);
        CHECK.meanThrows("ahead of a RUN", n);
        CHECK.due("run", n.run(0, 0), 1);
        CHECK.due("mean()", n.mean(), 1);
        CHECK.due("step", n.step(21, 0, 0, 0, -1), 1);
        CHECK.meanThrows("behind step()", n);
        CHECK.meanThrows("and again", n);
        CHECK.due("run", n.run(0, 0), 1);
        CHECK.due("clear()", n.clear(), 2);
        CHECK.meanThrows("behind clear()", n);
    }
}
