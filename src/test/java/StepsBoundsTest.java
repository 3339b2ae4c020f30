/** Boundary cases of promises 1 to 3, of the refusals and of how many calls there are. A method a sentence. */
public final class StepsBoundsTest extends Programs {
    private static final Check CHECK = new Check("StepsBoundsTest");
    private static final int LOWEST = Integer.MIN_VALUE;
    private static final int HIGHEST = Integer.MAX_VALUE;
    private static final long NOTHING = NullKinds.NOTHING;

    public static void main(String[] args) {
        atMost512Calls();
        laterCallsAreFree();
        noSteps();
        aStepMore();
        wrongCode();
        wrongNames();
        stepsUpTo32();
        anyNumber();
        wrongHandler();
        noRoom();
        whatWasSeenIsForgotten();
        howManyThereWere();
        allStepsGo();
        nothingWasSeenOrRun();
        refusalsChangeNothing();
        CHECK.end();
    }

    private static NullKinds ran(int x, int y, int answer, int[]... steps) {
        NullKinds n = program(steps);
        CHECK.due("run(" + x + ", " + y + ")", n.run(x, y), answer);
        return n;
    }

    private static void atMost512Calls() {
        CHECK.says("An object is used for at most 512 calls after it has been made");
        NullKinds n = new NullKinds();
        int calls = 0;
        for (int i = 0; i < 32; i++, calls++) {
            CHECK.due("step " + i, n.step(i < 31 ? 16 : 20, 0, 0, 0, -1), i);
        }
        for (; calls < 508; calls++) {
            CHECK.due("run", n.run(calls, 0), 2);
        }
        CHECK.due("call 509", n.ran(0), 200);
        CHECK.due("call 510", n.seen(31, 5), bits(0));
        CHECK.due("call 511", n.may(31, 5), bits(0));
        CHECK.due("call 512", n.mean(), 200);
        NullKinds steps = new NullKinds();
        for (calls = 0; calls < 510; calls += 34) {
            for (int i = 0; i < 32; i++) {
                CHECK.due("step " + i, steps.step(2, i % 6, 9, 0, i + 1), i);
            }
            CHECK.due("run", steps.run(20, 0), 0);
            CHECK.due("clear", steps.clear(), 32);
        }
        CHECK.due("call 511", steps.step(23, 1, 0, 0, -1), 0);
        CHECK.due("call 512", steps.run(0, -8), 0);
    }

    private static void laterCallsAreFree() {
        CHECK.says("what later calls answer is free");
        NullKinds n = program(s(21, 0, 0, 0, 0), s(20, 0));
        int answered = 0;
        for (int i = 0; i < 3000; i++, answered++) {
            n.run(i, -i);
            n.may(i % 2, 0);
            n.mean();
        }
        CHECK.due("calls that came to an answer", answered, 3000);
    }

    private static void noSteps() {
        CHECK.says("No STEPS.");
        NullKinds n = new NullKinds();
        CHECK.due("may(0, 0)", n.may(0, 0), -1);
        CHECK.due("faults(0)", n.faults(0), -1);
        CHECK.due("cast(0)", n.cast(0), -1);
        CHECK.due("seen(0, 0)", n.seen(0, 0), -1);
        CHECK.due("had(0)", n.had(0), -1);
        CHECK.due("clear()", n.clear(), 0);
        NullKinds other = program(s(21));
        CHECK.due("another object", new NullKinds().clear(), 0);
        CHECK.due("the one with a STEP", other.clear(), 1);
    }

    private static void aStepMore() {
        CHECK.says("A STEP more: its number.");
        NullKinds n = new NullKinds();
        for (int i = 0; i < 32; i++) {
            CHECK.due("step", n.step(i % 24, 0, i % 24 == 2 ? 5 : 1, 0, -1), i);
        }
        CHECK.due("clear()", n.clear(), 32);
        CHECK.due("step", n.step(21, 0, 0, 0, -1), 0);
    }

    private static void wrongCode() {
        CHECK.says("-2: code");
        for (int code : new int[] {LOWEST, -1, 24, 25, HIGHEST}) {
            for (int b = 0; b <= 9; b++) {
                CHECK.due("code " + code, new NullKinds().step(code, 0, b, 0, -1), -2);
            }
        }
        CHECK.due("code 0", new NullKinds().step(0, 0, 0, 0, -1), 0);
        CHECK.due("code 23", new NullKinds().step(23, 0, 0, 0, -1), 0);
    }

    /** One place of a code: what is just outside is refused, what is just inside is not. */
    private static void place(int[] step, int place, int low, int high) {
        int[] outside = {LOWEST, low - 1, high + 1, HIGHEST};
        int[] inside = {low, high};
        for (int value : outside) {
            CHECK.due("code " + step[0] + ", place " + place + ": " + value, add(new NullKinds(), with(step, place, value)), -2);
        }
        for (int value : inside) {
            CHECK.due("code " + step[0] + ", place " + place + ": " + value, add(new NullKinds(), with(step, place, value)), 0);
        }
    }

    private static int[] with(int[] step, int place, int value) {
        int[] other = step.clone();
        other[place] = value;
        return other;
    }

    private static void wrongNames() {
        CHECK.says("a, b, c that it names (VARIABLES, NUMBERS, KINDS, TYPES as told");
        for (int code : new int[] {0, 3, 4, 5, 6, 7, 8, 9, 10, 15, 22}) {
            place(s(code), 1, 0, 5);
        }
        place(s(1, 0, 1), 1, 0, 5);
        place(s(2, 0, 5), 1, 0, 5);
        for (int code : new int[] {3, 7, 8, 9, 10, 11, 12, 13, 14, 22}) {
            place(s(code), 2, 0, 5);
        }
        place(s(6), 3, 0, 5);
        for (int code : new int[] {11, 12, 13, 14, 16, 17, 18, 19, 23}) {
            place(s(code), 1, 0, 3);
        }
        for (int code : new int[] {15, 17, 18, 19}) {
            place(s(code), 2, 0, 3);
        }
        for (int code : new int[] {9, 10, 14, 15, 22}) {
            place(s(code), 3, 0, 3);
        }
        place(s(2, 0, 5), 3, 0, 3);
        place(s(1), 2, 1, 4);
        place(s(2), 2, 5, 9);
        place(s(4), 2, 0, 10);
        place(s(6), 2, 0, 10);
    }

    private static void stepsUpTo32() {
        CHECK.says("STEPS 0 to 32");
        place(s(4), 3, 0, 32);
        place(s(5), 3, 0, 32);
        place(s(19), 3, 0, 32);
        place(s(20), 1, 0, 32);
    }

    private static void anyNumber() {
        CHECK.says("16: b is any");
        for (int b : new int[] {LOWEST, -1, 0, 4, 33, HIGHEST}) {
            NullKinds n = ran(0, 0, 0, s(16, 3, b));
            CHECK.due("N(3)", n.number(3), b);
        }
    }

    private static void wrongHandler() {
        CHECK.says("HANDLER (-1 to 32)");
        for (int code = 0; code <= 23; code++) {
            place(s(code, 0, code == 1 ? 1 : code == 2 ? 5 : 0), 4, -1, 32);
        }
    }

    private static void noRoom() {
        CHECK.says("-4 no room");
        NullKinds n = full();
        for (int turn = 0; turn < 3; turn++) {
            CHECK.due("a 33rd STEP", n.step(21, 0, 0, 0, -1), -4);
        }
        CHECK.due("seen(32, 0)", n.seen(32, 0), -1);
        CHECK.says("of several the first one here: -1 there is no such step, variable; -2 outside its bounds; -3 as told; -4");
        CHECK.due("-2 ahead of -4: code", n.step(24, 0, 0, 0, -1), -2);
        CHECK.due("-2 ahead of -4: a", n.step(0, 6, 0, 0, -1), -2);
        CHECK.due("-2 ahead of -4: b", n.step(1, 0, 5, 0, -1), -2);
        CHECK.due("-2 ahead of -4: c", n.step(5, 0, 0, 33, -1), -2);
        CHECK.due("-2 ahead of -4: HANDLER", n.step(0, 0, 0, 0, 33), -2);
        CHECK.due("clear()", n.clear(), 32);
        CHECK.due("room again", n.step(21, 0, 0, 0, -1), 0);
    }

    private static void whatWasSeenIsForgotten() {
        CHECK.says("What was seen is forgotten.");
        NullKinds n = ran(3, 4, 0, s(21, 0, 0, 0, 1), s(1, 0, 4));
        CHECK.due("seen(1, 0)", n.seen(1, 0), bits(0));
        CHECK.due("had(0)", n.had(0), bits(7));
        CHECK.due("step", n.step(23, 0, 0, 0, -1), 2);
        CHECK.due("seen(1, 0)", n.seen(1, 0), 0);
        CHECK.due("had(0)", n.had(0), 0);
        CHECK.meanThrows("behind step()", n);
        CHECK.due("the latest RUN is not: ran(0)", n.ran(0), 2);
        CHECK.due("the latest RUN is not: variable(0, 0)", n.variable(0, 0), 4);
        CHECK.due("the latest RUN is not: number(1)", n.number(1), 4);
    }

    private static void howManyThereWere() {
        CHECK.says("how many there were");
        NullKinds n = full();
        CHECK.due("at most", n.clear(), 32);
        CHECK.due("at least", n.clear(), 0);
        CHECK.due("a STEP more", n.step(8, 0, 0, 0, -1), 0);
        CHECK.due("one refused", n.step(8, 6, 0, 0, -1), -2);
        CHECK.due("one", n.clear(), 1);
    }

    private static void allStepsGo() {
        CHECK.says("All STEPS go");
        NullKinds n = full();
        CHECK.due("clear()", n.clear(), 32);
        for (int step = 0; step < 32; step++) {
            CHECK.due("may(" + step + ", 0)", n.may(step, 0), -1);
            CHECK.due("had(" + step + ")", n.had(step), -1);
        }
        CHECK.due("run", n.run(0, 0), 0);
        CHECK.due("STEPS done", n.ran(0), 0);
        NullKinds never = program(s(16), s(21));
        CHECK.due("faults(1)", never.faults(1), bits(7));
        CHECK.due("clear()", never.clear(), 2);
        CHECK.due("step", never.step(23, 0, 0, 0, -1), 0);
        CHECK.due("step", never.step(21, 0, 0, 0, -1), 1);
        CHECK.due("faults(1), never come to now", never.faults(1), 0);
        CHECK.due("may(1, 0), never come to now", never.may(1, 0), 0);
        NullKinds alls = program(s(1, 0, 4), s(2, 1, 7), s(2, 2, 8), s(8, 0, 0), s(10, 1, 0, 0), s(10, 2, 0, 0));
        for (int what = 0; what <= 2; what++) {
            CHECK.due("all(" + what + ") before", alls.all(what), bits(0, 4));
        }
        CHECK.due("clear()", alls.clear(), 6);
        for (int what = 0; what <= 2; what++) {
            CHECK.due("all(" + what + ") behind it", alls.all(what), bits(0));
        }
    }

    private static void nothingWasSeenOrRun() {
        CHECK.says("nothing was seen or run");
        NullKinds n = ran(3, 4, 1, s(1, 0, 4), s(21));
        CHECK.due("clear()", n.clear(), 2);
        for (int what = 0; what <= 4; what++) {
            CHECK.due("ran(" + what + ")", n.ran(what), NOTHING);
        }
        for (int v = 0; v <= 5; v++) {
            CHECK.due("variable(" + v + ", 0)", n.variable(v, 0), -3);
        }
        for (int k = 0; k <= 3; k++) {
            CHECK.due("number(" + k + ")", n.number(k), NOTHING);
        }
        CHECK.meanThrows("behind clear()", n);
        CHECK.due("step", n.step(21, 0, 0, 0, -1), 0);
        CHECK.due("step", n.step(21, 0, 0, 0, -1), 1);
        CHECK.due("seen(0, 0)", n.seen(0, 0), 0);
        CHECK.due("had(1)", n.had(1), 0);
        CHECK.due("ran(0) behind step()", n.ran(0), NOTHING);
        // Without STEPS, too.
        NullKinds none = new NullKinds();
        CHECK.due("run", none.run(0, 0), 0);
        CHECK.due("clear()", none.clear(), 0);
        CHECK.due("ran(0)", none.ran(0), NOTHING);
        CHECK.meanThrows("behind clear() of no STEPS", none);
    }

    private static void refusalsChangeNothing() {
        CHECK.says("REFUSALS change nothing");
        NullKinds n = ran(5, 6, 1, s(1, 0, 2), s(6, 0, 3, 1));
        int[][] refused = {{24, 0, 0, 0, -1}, {-1, 0, 0, 0, -1}, {0, 6, 0, 0, -1}, {1, 0, 0, 0, -1}, {4, 0, 0, 33, -1}, {0, 0, 0, 0, -2}};
        for (int[] step : refused) {
            CHECK.due("step of code " + step[0], add(n, step), -2);
            n.variable(6, 0);
            n.variable(0, 4);
            n.ran(5);
            n.number(4);
            n.seen(2, 0);
            n.may(0, 6);
            n.faults(-1);
            n.cast(0);
            n.all(3);
            CHECK.due("seen(1, 0)", n.seen(1, 0), bits(2));
            CHECK.due("had(1)", n.had(1), bits(2));
            CHECK.due("mean()", n.mean(), 2);
            CHECK.due("cast(1)", n.cast(1), 2);
            CHECK.due("may(1, 0)", n.may(1, 0), bits(2));
            CHECK.due("ran(0)", n.ran(0), 2);
            CHECK.due("ran(2)", n.ran(2), 2);
            CHECK.due("variable(0, 0)", n.variable(0, 0), 2);
            CHECK.due("number(1)", n.number(1), 6);
        }
        CHECK.due("clear()", n.clear(), 2);
        NullKinds full = full();
        CHECK.due("run", full.run(1, 2), 0);
        CHECK.due("a 33rd STEP", full.step(21, 0, 0, 0, -1), -4);
        CHECK.due("seen(0, 0)", full.seen(0, 0), bits(0));
        CHECK.due("mean()", full.mean(), 1);
        CHECK.due("clear()", full.clear(), 32);
    }
}
