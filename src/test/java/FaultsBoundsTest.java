/** Boundary cases of FAULTS, HANDLERS and how a RUN comes to its end. A method a sentence. */
public final class FaultsBoundsTest extends Programs {
    private static final Check CHECK = new Check("FaultsBoundsTest");

    public static void main(String[] args) {
        faultsHaveTheirNumbers();
        aFaultChangesNothingElse();
        aFaultKeepsNextsAndCells();
        withAHandler();
        withoutOne();
        behindTheLastStep();
        a201stStep();
        aFaultAtThe200thStep();
        aNinthFault();
        theNinthGoesToNoHandler();
        theNinthKeepsNumber2();
        CHECK.end();
    }

    private static void faultsHaveTheirNumbers() {
        CHECK.says("FAULTS: 1 nothing where something must be, 2 CAST, 3 index, 4 store, 5 below 0, 6 by 0, 7 FAIL, 8 too large.");
        int[][] steps = {s(7, 0, 1), s(6, 5, 2, 0), s(9, 0, 4, 0), s(10, 4, 5, 3), s(2, 0, 5, 1), s(18, 0, 3), s(21), s(2, 0, 5, 0)};
        for (int fault = 1; fault <= 8; fault++) {
            // V(4) is BOLTS of one, V(5) a THING; N(0) is 21, N(1) -1.
            NullKinds n = program(s(16, 3, 1), s(2, 4, 8, 3), s(1, 5, 1), s(16, 3, 0), steps[fault - 1]);
            CHECK.due("run", n.run(21, -1), 1);
            CHECK.due("ran(2)", n.ran(2), fault);
            CHECK.due("had(4)", n.had(4), bits(fault));
            CHECK.due("faults(4) has it", n.faults(4) & bits(fault), bits(fault));
        }
    }

    /** Behind the steps before, one with this FAULT leaves all as a step would that only sets N(2). */
    private static void keeps(int fault, int[][] before, int[] step, int[]... reads) {
        int at = before.length;
        int[] handled = step.clone();
        handled[4] = at + 1;
        NullKinds one = program(join(join(before, handled), reads));
        NullKinds other = program(join(join(before, s(16, 2, fault)), reads));
        String what = "FAULT " + fault + " of code " + step[0] + ": ";
        CHECK.due(what + "run", one.run(0, 2), other.run(0, 2));
        CHECK.due(what + "had", one.had(at), bits(fault));
        for (int i = 0; i <= 4; i++) {
            CHECK.due(what + "ran(" + i + ")", one.ran(i), other.ran(i));
        }
        for (int k = 0; k <= 3; k++) {
            CHECK.due(what + "number(" + k + ")", one.number(k), other.number(k));
        }
        for (int v = 0; v <= 5; v++) {
            for (int i = 0; i <= 3; i++) {
                CHECK.due(what + "variable(" + v + ", " + i + ")", one.variable(v, i), other.variable(v, i));
            }
        }
    }

    private static void aFaultChangesNothingElse() {
        CHECK.says("A FAULT changes nothing else");
        // V(0) nothing, V(1) a NAIL, V(2) INTS, V(3) BOLTS, V(4) THINGS, V(5) a SCREW; N(3) is 7.
        int[][] all = {s(1, 1, 2), get(2, 5), get(3, 8), get(4, 7), s(1, 5, 4), s(16, 3, 7)};
        int[][] full = join(makes(40), s(1, 5, 4, 0, 6));
        keeps(8, full, s(1, 0, 1));
        keeps(8, full, s(2, 0, 5, 1));
        keeps(8, join(all, s(16, 3, 21)), s(2, 1, 5, 3));
        keeps(5, join(all, s(16, 3, -1)), s(2, 1, 5, 3));
        keeps(2, all, s(6, 1, 3, 5));
        keeps(2, all, s(6, 1, 3, 1));
        for (int code : new int[] {11, 12, 13}) {
            keeps(1, all, s(code, 3, 0));
        }
        keeps(2, all, s(11, 3, 2));
        keeps(2, all, s(12, 3, 3));
        keeps(2, all, s(13, 3, 1));
        keeps(1, all, s(7, 5, 0));
        keeps(2, all, s(7, 5, 2));
        keeps(1, all, s(9, 5, 0, 1));
        keeps(2, all, s(9, 5, 2, 1));
        keeps(3, all, s(9, 5, 4, 3));
        keeps(1, all, s(14, 3, 0, 1));
        keeps(2, all, s(14, 3, 4, 1));
        keeps(3, all, s(14, 3, 2, 3));
        keeps(6, join(all, s(16, 1, 0)), s(18, 3, 1));
        keeps(7, all, s(21));
    }

    private static void aFaultKeepsNextsAndCells() {
        CHECK.says("nothing else (but of 22, as told)");
        // V(1) a NAIL of which V(5), a SCREW, is NEXT; V(2) INTS 9, 0; V(3) BOLTS with V(5) in 0; V(4) THINGS with V(1).
        int[][] all = {
            s(1, 1, 2), get(2, 5), get(3, 8), get(4, 7), s(1, 5, 4), s(16, 3, 9), s(15, 2, 0, 3), s(10, 3, 5, 0), s(10, 4, 1, 0),
            s(8, 1, 5), s(16, 3, 2),
        };
        int[][] reads = {s(14, 1, 2, 0), s(9, 3, 3, 0), s(9, 4, 4, 0), s(16, 3, 1), s(14, 3, 2, 3)};
        keeps(1, all, s(8, 0, 1), reads);
        keeps(2, all, s(8, 2, 1), reads);
        keeps(2, all, s(10, 2, 1, 0), reads);
        keeps(2, all, s(10, 4, 2, 0), reads);
        keeps(1, all, s(10, 0, 5, 0), reads);
        keeps(3, all, s(10, 4, 5, 3), reads);
        keeps(4, all, s(10, 3, 1, 0), reads);
        keeps(1, all, s(15, 0, 0, 0), reads);
        keeps(2, all, s(15, 4, 0, 0), reads);
        keeps(3, all, s(15, 2, 3, 0), reads);
        keeps(1, all, s(22, 0, 3, 0), reads);
        keeps(1, all, s(22, 3, 0, 0), reads);
        keeps(4, all, s(22, 2, 3, 0), reads);
        keeps(3, all, s(22, 3, 4, 3), reads);
        keeps(4, all, s(22, 4, 3, 0), reads);
    }

    private static void withAHandler() {
        CHECK.says("with a HANDLER N(2) becomes the FAULT, and that STEP comes next");
        for (int handler : new int[] {1, 2, 3}) {
            NullKinds n = program(s(21, 0, 0, 0, handler), s(16, 0, 11), s(16, 1, 12), s(23, 2));
            CHECK.due("run", n.run(5, 6), 0);
            CHECK.due("ENDED with", n.ran(1), 7);
            CHECK.due("N(0)", n.number(0), handler <= 1 ? 11 : 5);
            CHECK.due("N(1)", n.number(1), handler <= 2 ? 12 : 6);
            CHECK.due("no FAULT it was THROWN by", n.ran(2), 0);
        }
        // STEP 0 may be one: back to it, where it is made good now.
        NullKinds back = program(s(5, 0, 0, 2), s(23, 2), s(1, 0, 2), s(11, 3, 0), s(14, 3, 0, 0, 0));
        CHECK.due("run", back.run(0, 0), 0);
        CHECK.due("ENDED with", back.ran(1), 2);
        // Where the STEP is to set N(2) itself, the FAULT is what is there.
        NullKinds own = program(s(16, 2, 9), s(18, 2, 3, 0, 2));
        CHECK.due("run", own.run(0, 0), 0);
        CHECK.due("N(2)", own.number(2), 6);
    }

    private static void withoutOne() {
        CHECK.says("without one the RUN is THROWN");
        NullKinds n = program(s(16, 2, 5), s(21), s(16, 0, 9));
        CHECK.due("run", n.run(1, 1), 1);
        CHECK.due("STEPS done", n.ran(0), 2);
        CHECK.due("what it ENDED with", n.ran(1), 0);
        CHECK.due("N(2) stays", n.number(2), 5);
        CHECK.due("N(0) stays", n.number(0), 1);
    }

    private static void behindTheLastStep() {
        CHECK.says("Behind the last STEP (also of those that a jump names) it ENDS with 0.");
        int[][] leads = {
            s(16, 3, 4), s(20, 1), s(20, 2), s(20, 31), s(20, 32), s(5, 0, 0, 1), s(5, 0, 0, 32), s(19, 0, 1, 1), s(19, 0, 1, 32),
            s(21, 0, 0, 0, 1), s(21, 0, 0, 0, 31), s(21, 0, 0, 0, 32),
        };
        for (int[] lead : leads) {
            NullKinds n = program(lead);
            CHECK.due("run", n.run(4, 5), 0);
            CHECK.due("ENDED with", n.ran(1), 0);
            CHECK.due("STEPS done", n.ran(0), 1);
        }
        NullKinds type = program(s(1, 0, 1), s(4, 0, 0, 32), s(21));
        CHECK.due("run", type.run(4, 5), 0);
        CHECK.due("STEPS done", type.ran(0), 2);
        // With all 32 STEPS there, 32 is behind them, 31 is the last.
        NullKinds full = new NullKinds();
        full.step(19, 0, 1, 32, -1);
        for (int i = 1; i < 31; i++) {
            full.step(20, 31, 0, 0, -1);
        }
        full.step(23, 1, 0, 0, -1);
        CHECK.due("run to 32", full.run(4, 5), 0);
        CHECK.due("ENDED with", full.ran(1), 0);
        CHECK.due("run to 31", full.run(6, 5), 0);
        CHECK.due("ENDED with", full.ran(1), 5);
        CHECK.due("STEPS done", full.ran(0), 3);
        NullKinds none = new NullKinds();
        CHECK.due("run of no STEPS", none.run(4, 5), 0);
        CHECK.due("ENDED with", none.ran(1), 0);
    }

    private static void a201stStep() {
        CHECK.says("A RUN that would do a 201st STEP is SPENT");
        // Two STEPS a turn, N(3) counts them by N(0) up to N(1).
        NullKinds n = program(s(17, 3, 0), s(19, 3, 1, 0));
        CHECK.due("199 and one more, and it is at its end", n.run(1, 100), 0);
        CHECK.due("STEPS done", n.ran(0), 200);
        CHECK.due("one that goes on", n.run(1, 101), 2);
        CHECK.due("STEPS done", n.ran(0), 200);
        CHECK.due("the turns", n.number(3), 100);
        CHECK.due("ENDED with", n.ran(1), 0);
        NullKinds end = program(s(17, 3, 0), s(19, 3, 1, 0), s(16, 2, 1), s(23, 1));
        CHECK.due("END as the 200th", end.run(1, 99), 0);
        CHECK.due("ENDED with", end.ran(1), 99);
        CHECK.due("END as the 202nd", end.run(1, 100), 2);
        CHECK.due("ENDED with", end.ran(1), 0);
        NullKinds late = program(s(16, 2, 3), s(17, 3, 0), s(19, 3, 1, 1), s(23, 1));
        CHECK.due("END as the 200th", late.run(1, 99), 0);
        NullKinds odd = program(s(17, 3, 0), s(19, 3, 1, 0), s(23, 1));
        CHECK.due("END as the 201st", odd.run(1, 100), 2);
        CHECK.due("it was not begun", odd.seen(2, 0), 0);
        CHECK.due("ENDED with", odd.ran(1), 0);
    }

    private static void aFaultAtThe200thStep() {
        CHECK.says("would do a 201st STEP");
        int[][] turns = {s(17, 3, 0), s(19, 3, 1, 0), s(16, 2, 5)};
        NullKinds thrown = behind(turns, s(21));
        CHECK.due("THROWN at the 200th", thrown.run(1, 99), 1);
        CHECK.due("its FAULT", thrown.ran(2), 7);
        NullKinds handled = behind(turns, s(21, 0, 0, 0, 4), s(23, 1));
        CHECK.due("its HANDLER would be the 201st", handled.run(1, 99), 2);
        CHECK.due("N(2) is the FAULT, of the 200th", handled.number(2), 7);
        CHECK.due("THROWN by none", handled.ran(2), 0);
        CHECK.due("no STEP", handled.ran(3), -3);
        NullKinds behind = behind(turns, s(21, 0, 0, 0, 32));
        CHECK.due("its HANDLER is behind the last STEP", behind.run(1, 99), 0);
        NullKinds late = behind(turns, s(16, 0, 1), s(21));
        CHECK.due("a FAULT that would be of the 201st", late.run(1, 99), 2);
        CHECK.due("it was not had", late.had(4), 0);
    }

    /** FAULTS of STEP 3 as often as N(0) tells; then STEP 7, behind which is the END, by 0 with N(2) at 3. */
    private static NullKinds faulty(int handler) {
        return program(s(16, 1, 1), s(16, 2, 3), s(17, 3, 1), s(21, 0, 0, 0, 4), s(19, 3, 0, 1), s(16, 1, 0), s(16, 2, 3),
                s(18, 0, 1, 0, handler), s(23, 2));
    }

    private static void aNinthFault() {
        CHECK.says("one with a ninth FAULT, too");
        NullKinds loop = program(s(21, 0, 0, 0, 0));
        CHECK.due("run", loop.run(0, 0), 2);
        CHECK.due("STEPS done", loop.ran(0), 9);
        CHECK.due("THROWN by none", loop.ran(2), 0);
        CHECK.due("no STEP", loop.ran(3), -3);
        NullKinds eight = faulty(8);
        CHECK.due("an eighth is handled", eight.run(7, 0), 0);
        CHECK.due("ENDED with", eight.ran(1), 6);
        CHECK.due("a ninth is not", eight.run(8, 0), 2);
        CHECK.due("ENDED with", eight.ran(1), 0);
        // Eight of one RUN are not counted in the next.
        for (int turn = 0; turn < 3; turn++) {
            CHECK.due("an eighth of another RUN", eight.run(7, 0), 0);
        }
        // The eighth leaves the RUN as it is, without another it ENDS.
        NullKinds ends = program(s(16, 2, 1), s(17, 3, 2), s(19, 0, 3, 4), s(21, 0, 0, 0, 0), s(23, 3));
        CHECK.due("eight, then the END", ends.run(8, 0), 0);
        CHECK.due("ENDED with", ends.ran(1), 9);
        CHECK.due("a ninth ahead of the END", ends.run(9, 0), 2);
    }

    private static void theNinthGoesToNoHandler() {
        CHECK.says("(it goes to no HANDLER");
        NullKinds n = faulty(8);
        CHECK.due("run", n.run(8, 0), 2);
        CHECK.due("the HANDLER was not begun", n.seen(8, 0), 0);
        CHECK.due("the FAULT was had", n.had(7), bits(6));
        // Without a HANDLER the ninth is SPENT, the eighth THROWN.
        NullKinds none = faulty(-1);
        CHECK.due("the eighth without one", none.run(7, 0), 1);
        CHECK.due("its FAULT", none.ran(2), 6);
        CHECK.due("its STEP", none.ran(3), 7);
        CHECK.due("the ninth without one", none.run(8, 0), 2);
        CHECK.due("THROWN by none", none.ran(2), 0);
        CHECK.due("no STEP", none.ran(3), -3);
        // Nor where the HANDLER is behind the last STEP.
        NullKinds behind = faulty(32);
        CHECK.due("the eighth", behind.run(7, 0), 0);
        CHECK.due("the ninth", behind.run(8, 0), 2);
    }

    private static void theNinthKeepsNumber2() {
        CHECK.says("N(2) stays)");
        NullKinds n = faulty(8);
        CHECK.due("the eighth", n.run(7, 0), 0);
        CHECK.due("N(2)", n.number(2), 6);
        CHECK.due("the ninth", n.run(8, 0), 2);
        CHECK.due("N(2)", n.number(2), 3);
    }
}
