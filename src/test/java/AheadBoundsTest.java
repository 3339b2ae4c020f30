/** Boundary cases of what is TOLD AHEAD, and of promises 10 to 13. A method a sentence. */
public final class AheadBoundsTest extends Programs {
    private static final Check CHECK = new Check("AheadBoundsTest");
    private static final int LOWEST = Integer.MIN_VALUE;
    private static final int HIGHEST = Integer.MAX_VALUE;
    private static final int[] NO_VARIABLES = {LOWEST, -1, 6, HIGHEST};
    private static final int[] ALL_KINDS = {0, 1, 2, 3, 4, 5, 6, 7, 8, 9};

    public static void main(String[] args) {
        atFirst();
        theLeastSets();
        anEmptyStepDoesNotGoOn();
        eachOnItsOwn();
        numbersAsTheyMayBe();
        lengthsAsTheyMayBe();
        whatIsThen();
        thoseKindsAlone();
        thoseKindsOfTwo();
        thoseKindsOfSome();
        theOneSideTheOther();
        ofACastToo();
        othersAsTheyAre();
        namedTwice();
        onlyGetWhatComes();
        nextsGiveAll();
        cellsGiveAll();
        withAHandler();
        allNexts();
        allCells();
        allMoved();
        mayIsNeverComeTo();
        mayNoSuch();
        faultsOfOne();
        faultsOfTwo();
        faultsNeverComeTo();
        casts();
        castNoSuch();
        allOutside();
        CHECK.end();
    }

    private static void may(NullKinds n, int step, int v, int... kinds) {
        CHECK.due("may(" + step + ", " + v + ")", n.may(step, v), bits(kinds));
    }

    private static void alls(NullKinds n, int nexts, int things, int bolts) {
        CHECK.due("all(0)", n.all(0), nexts);
        CHECK.due("all(1)", n.all(1), things);
        CHECK.due("all(2)", n.all(2), bolts);
    }

    private static boolean isArray(int kind) {
        return kind >= 5;
    }

    private static boolean isThing(int kind) {
        return kind >= 1 && kind <= 4;
    }

    private static void atFirst() {
        CHECK.says("At first MAY of STEP 0 is nothing, for each VARIABLE, ALL are nothing");
        NullKinds n = program(s(21));
        for (int v = 0; v <= 5; v++) {
            may(n, 0, v, 0);
        }
        alls(n, 1, 1, 1);
        alls(new NullKinds(), 1, 1, 1);
        NullKinds back = program(s(19, 0, 1, 3), s(1, 0, 4), s(20, 0), s(23));
        may(back, 0, 0, 0, 4);
        may(back, 0, 1, 0);
    }

    private static void theLeastSets() {
        CHECK.says("the least sets are told for which this holds");
        // Two that would only have more from one another have no more than at first.
        NullKinds round = program(s(3, 0, 1), s(3, 1, 0), s(20, 0));
        may(round, 0, 0, 0);
        may(round, 2, 1, 0);
        NullKinds nexts = program(s(1, 0, 1), s(7, 1, 0), s(8, 0, 1), s(20, 1));
        alls(nexts, 1, 1, 1);
        may(nexts, 1, 1, 0);
        NullKinds cells = program(s(2, 0, 7), s(2, 1, 8), s(22, 0, 1, 0), s(22, 1, 0, 0), s(9, 2, 0, 0), s(10, 1, 2, 0), s(20, 2));
        alls(cells, 1, 1, 1);
        backAlongAll32();
        // What is told is of the STEPS that there are now, whatever was asked or run before.
        NullKinds grown = program(s(1, 0, 1), s(7, 1, 0));
        alls(grown, 1, 1, 1);
        CHECK.due("step", grown.step(8, 0, 0, 0, -1), 2);
        alls(grown, bits(0, 1), 1, 1);
        CHECK.due("step", grown.step(20, 1, 0, 0, -1), 3);
        may(grown, 1, 1, 0, 1);
        CHECK.due("run", grown.run(0, 0), 2);
        may(grown, 1, 1, 0, 1);
    }

    /** The last STEP is come to first, each other one from the one behind it; what STEP 31 stores is told at all. */
    private static void backAlongAll32() {
        NullKinds n = new NullKinds();
        n.step(1, 0, 2, 0, 31);
        n.step(20, 31, 0, 0, -1);
        n.step(7, 1, 0, 0, -1);
        for (int i = 3; i < 31; i++) {
            n.step(20, i - 1, 0, 0, -1);
        }
        n.step(8, 0, 0, 0, 30);
        for (int step = 2; step <= 31; step++) {
            may(n, step, 0, 0, 2);
        }
        may(n, 3, 1, 0, 2);
        alls(n, bits(0, 2), 1, 1);
    }

    private static void anEmptyStepDoesNotGoOn() {
        CHECK.says("A STEP of which MAY is not empty goes on");
        NullKinds n = program(s(23), s(1, 0, 1, 0, 5), s(8, 0, 0), s(4, 0, 0, 5), s(20, 5), s(21, 0, 0, 0, 1));
        for (int step = 1; step <= 5; step++) {
            may(n, step, 0);
            may(n, step, 5);
        }
        alls(n, 1, 1, 1);
        may(program(s(21), s(16)), 1, 0);
        may(program(s(20, 2), s(16), s(16)), 1, 0);
        may(program(s(20, 2), s(16), s(16)), 2, 0, 0);
        may(program(s(7, 0, 0), s(16)), 1, 0);
        // A jump behind the last STEP, at its edge too, comes to none of them.
        for (int to : new int[] {2, 3, 31, 32}) {
            NullKinds over = program(s(20, to), s(16));
            may(over, 0, 0, 0);
            may(over, 1, 0);
        }
    }

    private static void eachOnItsOwn() {
        CHECK.says("for some KINDS of the VARIABLES that it names as V (each from its MAY, on its own)");
        // In each RUN V(1) is what V(0) is; told ahead, V(0) may be BOLTS with V(1) a thing, and so on.
        NullKinds n = behind(choose(0, 0, 1, 8), s(3, 1, 0), s(10, 0, 1, 0), s(21));
        CHECK.due("faults(7)", n.faults(7), bits(2, 3, 4));
        may(n, 8, 0);
        NullKinds bolts = behind(choose(0, 0, 3, 8), s(3, 1, 0), s(10, 0, 1, 0), s(21));
        may(bolts, 8, 0, 8);
        may(bolts, 8, 1, 3);
        alls(bolts, 1, 1, bits(0, 3));
        NullKinds move = behind(choose(0, 0, 5, 6), s(3, 1, 0), s(22, 0, 1, 0), s(21));
        CHECK.due("faults(7)", move.faults(7), bits(3, 4));
        may(move, 8, 0, 5, 6);
        may(move, 8, 1, 5, 6);
    }

    private static void numbersAsTheyMayBe() {
        CHECK.says("NUMBERS and cells as they may be");
        NullKinds less = program(s(16, 0, 1), s(16, 1, 2), s(19, 0, 1, 4), s(16), s(16));
        may(less, 3, 0, 0);
        may(less, 4, 0, 0);
        NullKinds other = program(s(16, 0, 2), s(16, 1, 1), s(19, 0, 1, 4), s(20, 32), s(16));
        may(other, 4, 0, 0);
        CHECK.due("by 1", program(s(16, 1, 1), s(18, 0, 1)).faults(1), bits(6));
        may(program(s(16, 1, 0), s(18, 0, 1), s(16)), 2, 0, 0);
        CHECK.due("LENGTH 1", program(s(16, 1, 1), s(2, 0, 5, 1)).faults(1), bits(5, 8));
        may(program(s(16, 1, -1), s(2, 0, 5, 1), s(16)), 2, 0, 5);
        CHECK.due("the first that is made", program(s(1, 0, 1)).faults(0), bits(8));
        // What a cell, a NEXT may have counts from wherever it was put, for all arrays, all things.
        NullKinds cell = program(s(2, 0, 7), s(2, 1, 7), s(1, 2, 2), s(10, 0, 2, 0), s(9, 3, 1, 0), s(16));
        may(cell, 5, 3, 0, 2);
    }

    private static void lengthsAsTheyMayBe() {
        CHECK.says("(LENGTHS 0 to 20)");
        // Of arrays that have no cells in any RUN it is told that they may, and that they may not.
        int[][] none = {s(16, 1, 0), s(2, 0, 5, 1), s(2, 1, 8, 1), s(16, 3, 0)};
        NullKinds get = behind(none, s(14, 0, 0, 3), s(15, 0, 3, 0), s(9, 2, 1, 3), s(10, 1, 2, 3), s(22, 0, 0, 3), s(16));
        for (int step = 4; step <= 8; step++) {
            CHECK.due("faults(" + step + ")", get.faults(step), bits(3));
        }
        may(get, 9, 0, 5);
        may(get, 9, 1, 8);
    }

    private static void whatIsThen() {
        CHECK.says("MAY of what comes next has what is then");
        for (int kind = 0; kind <= 9; kind++) {
            NullKinds n = program(s(1, 5, 1), get(5, kind), s(3, 4, 5), s(6, 4, 0, 3), s(0, 4), s(16));
            may(n, 2, 5, kind);
            may(n, 3, 4, kind);
            may(n, 4, 3, kind);
            may(n, 5, 4, 0);
        }
        for (int code : new int[] {16, 17, 18, 19, 20}) {
            NullKinds n = program(s(1, 5, 4), s(code, code == 20 ? 2 : 0, 0, 2), s(16));
            may(n, 2, 5, 4);
            may(n, 2, 0, 0);
        }
    }

    /** The KINDS with which a code that looks at V(0) alone goes on. */
    private static boolean goesOn(int code, int kind) {
        switch (code) {
            case 7:
            case 8:
                return isThing(kind);
            case 9:
                return kind == 7 || kind == 8;
            case 11:
            case 12:
                return kind == 2 || kind == 4;
            case 13:
                return isArray(kind);
            default:
                return kind == 5;
        }
    }

    /** The STEP of a code that looks at V(0) alone; the other numbers in it are none of 0. */
    private static int[] looking(int code) {
        return code == 8 ? s(8, 0, 1) : code == 15 ? s(15, 0, 2, 3) : s(code, 1, 0, 2);
    }

    private static void thoseKindsAlone() {
        CHECK.says("those KINDS alone with which it goes so");
        int[][] all = choose(0, 0, ALL_KINDS);
        for (int code : new int[] {7, 8, 9, 11, 12, 13, 14, 15}) {
            int due = 0;
            for (int kind = 0; kind <= 9; kind++) {
                boolean goes = goesOn(code, kind);
                NullKinds one = program(get(0, kind), looking(code), s(16));
                CHECK.due("code " + code + ": may(2, 0)", one.may(2, 0), goes ? bits(kind) : 0);
                CHECK.due("code " + code + ": may(2, 5)", one.may(2, 5), goes ? bits(0) : 0);
                due |= goes ? bits(kind) : 0;
            }
            NullKinds n = behind(all, looking(code), s(16));
            CHECK.due("code " + code + ": may(31, 0)", n.may(31, 0), due);
        }
    }

    private static boolean storesIn(int array, int kind) {
        return array == 7 && kind <= 4 || array == 8 && (kind == 0 || kind == 3 || kind == 4);
    }

    private static boolean movesTo(int from, int to) {
        return from >= 7 && to >= 7 || from == to && from >= 5;
    }

    private static void thoseKindsOfTwo() {
        CHECK.says("those KINDS alone with which it goes so");
        for (int first = 0; first <= 9; first++) {
            for (int second = 0; second <= 9; second++) {
                NullKinds cell = program(get(0, first), get(1, second), s(10, 0, 1, 0), s(16));
                boolean stores = storesIn(first, second);
                CHECK.due("10: may(3, 0)", cell.may(3, 0), stores ? bits(first) : 0);
                CHECK.due("10: may(3, 1)", cell.may(3, 1), stores ? bits(second) : 0);
                NullKinds move = program(get(0, first), get(1, second), s(22, 0, 1, 0), s(16));
                boolean moves = movesTo(first, second);
                CHECK.due("22: may(3, 0)", move.may(3, 0), moves ? bits(first) : 0);
                CHECK.due("22: may(3, 1)", move.may(3, 1), moves ? bits(second) : 0);
                CHECK.due("22: may(3, 5)", move.may(3, 5), moves ? bits(0) : 0);
            }
        }
    }

    /** With two KINDS each: those of the one stay that go with some KIND of the other. */
    private static void thoseKindsOfSome() {
        CHECK.says("for some KINDS of the VARIABLES that it names as V");
        for (int one = 0; one <= 9; one++) {
            for (int other = one + 1; other <= 9; other++) {
                for (int with = 0; with <= 9; with++) {
                    for (int second = with + 1; second <= 9; second++) {
                        someOf(10, k(one, other), k(with, second));
                        someOf(22, k(one, other), k(with, second));
                    }
                }
            }
        }
    }

    private static void someOf(int code, int[] first, int[] second) {
        int kept = 0;
        int keptToo = 0;
        int faults = 0;
        for (int one : first) {
            for (int other : second) {
                boolean goes = code == 10 ? storesIn(one, other) : movesTo(one, other);
                kept |= goes ? bits(one) : 0;
                keptToo |= goes ? bits(other) : 0;
                faults |= code == 10 ? storeFaults(one, other) : emptyMoveFaults(one, other);
            }
        }
        NullKinds n = two(first, second, s(code, 0, 1, 2), s(16));
        String what = "code " + code + " of " + first[0] + ", " + first[1] + " and " + second[0] + ", " + second[1] + ": ";
        CHECK.due(what + "may(13, 0)", n.may(13, 0), kept);
        CHECK.due(what + "may(13, 1)", n.may(13, 1), keptToo);
        CHECK.due(what + "may(13, 2)", n.may(13, 2), kept == 0 ? 0 : bits(0));
        CHECK.due(what + "faults(12)", n.faults(12), faults);
    }

    private static void theOneSideTheOther() {
        CHECK.says("(at 4, 5 to the one side, the other");
        int[][] kindsOf = {
            {1, 2, 3, 4, 5, 6, 7, 8, 9}, {1, 2, 3, 4}, {2}, {3, 4}, {4}, {2, 4}, {5}, {6}, {7, 8}, {8}, {9},
        };
        for (int kind = 0; kind <= 9; kind++) {
            for (int type = 0; type <= 10; type++) {
                boolean is = (bits(kindsOf[type]) & bits(kind)) != 0;
                sides(kind, s(4, 0, type, 3), is);
            }
            sides(kind, s(5, 0, 0, 3), kind == 0);
        }
        // Of some each side has its own; where both sides are one STEP, all.
        int[][] some = choose(0, 0, 0, 2, 3, 4, 9);
        NullKinds type = behind(some, s(4, 0, 3, 17), s(23), s(23));
        may(type, 16, 0, 0, 2, 9);
        may(type, 17, 0, 3, 4);
        NullKinds none = behind(some, s(5, 0, 0, 17), s(23), s(23));
        may(none, 16, 0, 2, 3, 4, 9);
        may(none, 17, 0, 0);
        may(behind(some, s(4, 0, 3, 16), s(23)), 16, 0, 0, 2, 3, 4, 9);
        may(behind(some, s(5, 0, 0, 16), s(23)), 16, 0, 0, 2, 3, 4, 9);
    }

    private static void sides(int kind, int[] step, boolean jumps) {
        NullKinds n = program(get(0, kind), step, s(23), s(23));
        String what = "code " + step[0] + ", kind " + kind + ": ";
        CHECK.due(what + "may(2, 0)", n.may(2, 0), jumps ? 0 : bits(kind));
        CHECK.due(what + "may(2, 5)", n.may(2, 5), jumps ? 0 : bits(0));
        CHECK.due(what + "may(3, 0)", n.may(3, 0), jumps ? bits(kind) : 0);
        CHECK.due(what + "may(3, 5)", n.may(3, 5), jumps ? bits(0) : 0);
    }

    private static void ofACastToo() {
        CHECK.says("at 6 V(a), too)");
        NullKinds n = behind(choose(0, 0, 0, 2, 3, 4, 7), s(6, 0, 5, 1), s(16));
        may(n, 16, 0, 0, 2, 4);
        may(n, 16, 1, 0, 2, 4);
        NullKinds none = behind(choose(0, 0, 2, 3), s(6, 0, 10, 1), s(16));
        may(none, 7, 0);
        may(none, 7, 1);
        NullKinds same = behind(choose(0, 0, 0, 2, 3), s(6, 0, 2, 0), s(16));
        may(same, 10, 0, 0, 2);
    }

    private static void othersAsTheyAre() {
        CHECK.says("those of others as they are");
        int[][] some = choose(5, 1, 0, 1, 9);
        int[][] steps = {
            s(0, 0), s(1, 0, 1), s(2, 0, 5), s(3, 0, 1), s(6, 1, 0, 0), s(7, 1, 0), s(8, 0, 1), s(11, 0, 0), s(12, 0, 0), s(16), s(17),
            s(18), s(19, 0, 0, 11), s(20, 11), s(4, 0, 2, 11), s(5, 1, 0, 11),
        };
        for (int[] step : steps) {
            NullKinds n = behind(join(new int[][] {s(1, 0, 2)}, some), step, s(16));
            may(n, 11, 5, 0, 1, 9);
            may(n, 11, 4, 0);
        }
    }

    private static void namedTwice() {
        CHECK.says("of a VARIABLE that is named twice those of both (it does not go on, if these are none)");
        NullKinds cell = behind(choose(0, 0, ALL_KINDS), s(10, 0, 0, 0), s(16));
        may(cell, 31, 0);
        may(cell, 31, 5);
        // Each on its own it has all FAULTS, and puts into ALL.
        CHECK.due("faults(30)", cell.faults(30), bits(1, 2, 3, 4));
        alls(cell, 1, bits(0, 1, 2, 3, 4), bits(0, 3, 4));
        NullKinds move = behind(choose(0, 0, ALL_KINDS), s(22, 0, 0, 0), s(16));
        may(move, 31, 0, 5, 6, 7, 8, 9);
        CHECK.due("faults(30)", move.faults(30), bits(1, 3, 4));
        NullKinds next = behind(choose(0, 0, ALL_KINDS), s(8, 0, 0), s(16));
        may(next, 31, 0, 1, 2, 3, 4);
        alls(next, bits(ALL_KINDS), 1, 1);
        NullKinds none = behind(choose(0, 0, 0, 1), s(22, 0, 0, 0), s(16));
        may(none, 7, 0);
    }

    private static void onlyGetWhatComes() {
        CHECK.says("(V(a) of 0 to 3, 7, 9, V(c) of 6 only get what comes.)");
        // V(0) may be anything before; V(1) is a thing, THINGS or nothing.
        int[][] before = choose(0, 0, 0, 1, 4, 5, 6, 7, 8, 9);
        int[][] steps = {s(0, 0), s(1, 0, 3), s(2, 0, 6), s(3, 0, 1), s(6, 1, 9, 0)};
        int[] due = {0, 3, 6, 0, 0};
        for (int i = 0; i < steps.length; i++) {
            may(behind(before, steps[i], s(16)), 25, 0, due[i]);
        }
        may(behind(before, s(1, 1, 1), s(7, 0, 1), s(16)), 26, 0, 0);
        may(behind(before, s(2, 1, 7), s(9, 0, 1), s(16)), 26, 0, 0);
        // So one that is named twice is not what it was.
        may(program(s(1, 0, 1), s(7, 0, 0), s(16)), 2, 0, 0);
        may(program(s(2, 0, 8), s(9, 0, 0), s(16)), 2, 0, 0);
        may(behind(choose(0, 0, 1, 7), s(3, 0, 0), s(16)), 7, 0, 1, 7);
    }

    private static void nextsGiveAll() {
        CHECK.says("7, 9 give ALL of these");
        // Each KIND as NEXT of a thing; then that of another thing, which no RUN gives one.
        for (int kind = 0; kind <= 9; kind++) {
            NullKinds n = program(s(1, 0, 1), get(1, kind), s(8, 0, 1), s(1, 2, 4), s(7, 3, 2), s(16));
            may(n, 5, 3, 0, kind);
            CHECK.due("all(0)", n.all(0), bits(0, kind));
        }
    }

    private static void cellsGiveAll() {
        CHECK.says("(9: of those arrays that V(b) may be)");
        // ALL THINGS are 0, 2, ALL BOLTS 0, 4.
        int[][] put = {s(2, 1, 7), s(2, 2, 8), s(1, 3, 2), s(10, 1, 3, 0), s(1, 3, 4), s(10, 2, 3, 0)};
        NullKinds things = behind(join(put, get(0, 7)), s(9, 4, 0, 0), s(16));
        may(things, 8, 4, 0, 2);
        NullKinds bolts = behind(join(put, get(0, 8)), s(9, 4, 0, 0), s(16));
        may(bolts, 8, 4, 0, 4);
        NullKinds both = behind(join(put, choose(0, 6, 7, 8, 9)), s(9, 4, 0, 0), s(16));
        may(both, 16, 4, 0, 2, 4);
        may(both, 16, 0, 7, 8);
        NullKinds none = behind(join(put, choose(0, 6, 0, 9)), s(9, 4, 0, 0), s(16));
        may(none, 13, 4);
    }

    private static void withAHandler() {
        CHECK.says("With a HANDLER, and a FAULT that it can have for some KINDS: MAY of the HANDLER has all MAY of the STEP.");
        int[][] some = choose(0, 0, 0, 1, 7);
        NullKinds n = behind(some, s(7, 0, 0, 0, 11), s(23), s(23));
        may(n, 10, 0, 0);
        may(n, 11, 0, 0, 1, 7);
        may(n, 11, 5, 0);
        // With none that it can have the HANDLER is not come to.
        may(behind(choose(0, 0, 1, 4), s(7, 1, 0, 0, 8), s(23), s(23)), 8, 0);
        may(behind(choose(0, 0, 0, 4), s(6, 0, 3, 1, 8), s(23), s(23)), 8, 0);
        may(behind(choose(0, 0, 2, 4), s(6, 0, 3, 1, 8), s(23), s(23)), 8, 0, 2, 4);
        for (int code : new int[] {0, 3, 4, 5, 16, 17, 19, 20, 23}) {
            may(program(s(code, 0, 0, 1, 2), s(23), s(23)), 2, 0);
        }
        for (int code : new int[] {1, 2, 18, 21}) {
            may(program(s(code, 0, code == 1 ? 1 : code == 2 ? 5 : 0, 0, 2), s(23), s(23)), 2, 0, 0);
        }
        // A HANDLER behind the last STEP is none to come to; STEP 31, with all there, is.
        may(program(s(21, 0, 0, 0, 32), s(23)), 1, 0);
        NullKinds last = new NullKinds();
        last.step(21, 0, 0, 0, 31);
        for (int i = 1; i < 32; i++) {
            last.step(23, 0, 0, 0, -1);
        }
        may(last, 31, 5, 0);
        may(last, 1, 5);
    }

    private static void allNexts() {
        CHECK.says("8: ALL NEXTS have MAY of V(b), if V(a) may be a thing");
        for (int kind = 0; kind <= 9; kind++) {
            NullKinds n = program(get(0, kind), s(2, 1, 9), s(8, 0, 1));
            alls(n, isThing(kind) ? bits(0, 9) : 1, 1, 1);
        }
        alls(two(k(0, 5, 4), k(1, 8), s(8, 0, 1)), bits(0, 1, 8), 1, 1);
        alls(two(k(0, 5, 9), k(1, 8), s(8, 0, 1)), 1, 1, 1);
    }

    private static void allCells() {
        CHECK.says("10: ALL THINGS, ALL BOLTS have those of V(b) that such cells can have, if V(a) may be such");
        for (int array = 0; array <= 9; array++) {
            for (int kind = 0; kind <= 9; kind++) {
                NullKinds n = program(get(0, array), get(1, kind), s(10, 0, 1, 0));
                boolean stores = storesIn(array, kind);
                alls(n, 1, stores && array == 7 ? bits(0, kind) : 1, stores && array == 8 ? bits(0, kind) : 1);
            }
        }
        alls(two(k(7, 8), k(1, 2, 3, 4, 5), s(10, 0, 1, 0)), 1, bits(0, 1, 2, 3, 4), bits(0, 3, 4));
        alls(two(k(0, 9), k(1, 2, 3, 4, 5), s(10, 0, 1, 0)), 1, 1, 1);
    }

    private static void allMoved() {
        CHECK.says("22: from ALL of the one to ALL of the other those that it can have, if V(a), V(b) may be so (7, 8 alone).");
        // V(2) THINGS with 1, 4 in them, V(3) BOLTS with 3; then V(0) goes into V(1).
        int[][] put = {s(2, 2, 7), s(1, 4, 1), s(10, 2, 4, 0), s(1, 4, 4), s(10, 2, 4, 0), s(2, 3, 8), s(1, 4, 3), s(10, 3, 4, 0)};
        for (int from = 0; from <= 9; from++) {
            for (int to = 0; to <= 9; to++) {
                NullKinds n = behind(put, get(0, from), get(1, to), s(22, 0, 1, 0));
                int things = from == 8 && to == 7 ? bits(0, 1, 3, 4) : bits(0, 1, 4);
                int bolts = from == 7 && to == 8 ? bits(0, 3, 4) : bits(0, 3);
                alls(n, 1, things, bolts);
            }
        }
        // Both ways, and from what comes later.
        NullKinds both = program(s(2, 0, 7), s(2, 1, 8), s(22, 0, 1, 0), s(22, 1, 0, 0), s(1, 2, 3), s(10, 1, 2, 0), s(1, 2, 4),
                s(10, 0, 2, 0), s(1, 2, 2), s(10, 0, 2, 0));
        alls(both, 1, bits(0, 2, 3, 4), bits(0, 3, 4));
    }

    private static void mayIsNeverComeTo() {
        CHECK.says("MAY; 0: it is never come to.");
        NullKinds n = program(s(23), s(16));
        for (int v = 0; v <= 5; v++) {
            may(n, 0, v, 0);
            may(n, 1, v);
        }
        NullKinds full = full();
        may(full, 31, 0);
        CHECK.due("all ten KINDS", behind(choose(0, 0, ALL_KINDS), s(16)).may(30, 0), 1023);
    }

    private static void mayNoSuch() {
        CHECK.says("it is never come to. -1.");
        NullKinds n = program(s(23), s(16));
        for (int step : new int[] {LOWEST, -1, 2, 31, 32, HIGHEST}) {
            for (int v : new int[] {LOWEST, -1, 0, 5, 6, HIGHEST}) {
                CHECK.due("may(" + step + ", " + v + ")", n.may(step, v), -1);
            }
        }
        for (int v : NO_VARIABLES) {
            CHECK.due("may(0, " + v + ")", n.may(0, v), -1);
            CHECK.due("may(1, " + v + ")", n.may(1, v), -1);
        }
    }

    /** The FAULTS that a code that looks at V(0) alone can have with this KIND, by the terms. */
    private static int faultsOf(int code, int kind) {
        if (kind == 0) {
            return bits(1);
        }
        if (!goesOn(code, kind)) {
            return bits(2);
        }
        return code == 9 || code == 14 || code == 15 ? bits(3) : 0;
    }

    private static void faultsOfOne() {
        CHECK.says("FAULTS, as bits, that a STEP can have, for some KINDS of its MAY");
        int[][] all = choose(0, 0, ALL_KINDS);
        for (int code : new int[] {7, 8, 9, 11, 12, 13, 14, 15}) {
            int due = 0;
            for (int kind = 0; kind <= 9; kind++) {
                CHECK.due("code " + code + ", kind " + kind, program(get(0, kind), looking(code)).faults(1), faultsOf(code, kind));
                due |= faultsOf(code, kind);
            }
            CHECK.due("code " + code + ", all kinds", behind(all, looking(code)).faults(30), due);
        }
        int[][] plain = {s(0), s(3, 0, 1), s(4, 0, 1, 0), s(5, 0, 0, 0), s(16), s(17), s(19), s(20), s(23)};
        for (int[] step : plain) {
            CHECK.due("code " + step[0], behind(all, step).faults(30), 0);
        }
        CHECK.due("code 1", behind(all, s(1, 0, 1)).faults(30), bits(8));
        CHECK.due("code 2", behind(all, s(2, 0, 5)).faults(30), bits(5, 8));
        CHECK.due("code 18", behind(all, s(18)).faults(30), bits(6));
        CHECK.due("code 21", behind(all, s(21)).faults(30), bits(7));
    }

    private static int storeFaults(int array, int kind) {
        if (array != 0 && array != 7 && array != 8 || kind > 4) {
            return bits(2);
        }
        if (array == 0) {
            return bits(1);
        }
        return storesIn(array, kind) ? bits(3) : bits(3, 4);
    }

    /** With THINGS of which a cell may be 1, 4, BOLTS of which one may be 3. */
    private static int moveFaults(int from, int to) {
        if (from == 0 || to == 0) {
            return bits(1);
        }
        if (!movesTo(from, to)) {
            return bits(4);
        }
        boolean unfit = from == 7 && to != 7 || from == 8 && to == 9 || from == 9 && to != 9;
        return unfit ? bits(3, 4) : bits(3);
    }

    /** With all cells nothing they go wherever they come to; those of ROWS are INTS, too. */
    private static int emptyMoveFaults(int from, int to) {
        boolean nothing = movesTo(from, to) && (from != 9 || to == 9);
        return nothing ? bits(3) : moveFaults(from, to);
    }

    private static void faultsOfTwo() {
        CHECK.says("FAULTS, as bits, that a STEP can have, for some KINDS of its MAY");
        int[][] put = {s(2, 2, 7), s(1, 4, 1), s(10, 2, 4, 0), s(1, 4, 4), s(10, 2, 4, 0), s(2, 3, 8), s(1, 4, 3), s(10, 3, 4, 0)};
        for (int first = 0; first <= 9; first++) {
            for (int second = 0; second <= 9; second++) {
                String what = first + " and " + second;
                CHECK.due("10, " + what, program(get(0, first), get(1, second), s(10, 0, 1, 0)).faults(2), storeFaults(first, second));
                NullKinds move = behind(put, get(0, first), get(1, second), s(22, 0, 1, 0));
                CHECK.due("22, " + what, move.faults(10), moveFaults(first, second));
                NullKinds empty = program(get(0, first), get(1, second), s(22, 0, 1, 0));
                CHECK.due("22 of nothing, " + what, empty.faults(2), emptyMoveFaults(first, second));
            }
        }
    }

    private static void faultsNeverComeTo() {
        CHECK.says("0 if it is never come to. -1.");
        for (int code = 0; code <= 23; code++) {
            int[] step = s(code, 0, code == 1 ? 1 : code == 2 ? 5 : 0);
            CHECK.due("code " + code, program(s(23), step).faults(1), 0);
        }
        NullKinds n = program(s(21), s(21));
        for (int step : new int[] {LOWEST, -1, 2, 31, 32, HIGHEST}) {
            CHECK.due("faults(" + step + ")", n.faults(step), -1);
        }
        CHECK.due("faults(0)", n.faults(0), bits(7));
        CHECK.due("faults(1)", n.faults(1), 0);
        CHECK.due("faults(31)", full().faults(31), 0);
        CHECK.due("faults(32)", full().faults(32), -1);
    }

    private static void casts() {
        CHECK.says("Of a STEP 6: 0 it can not fail, 1 it may, 2 it fails whenever it is come to.");
        int[] cast = s(6, 0, 3, 1);
        CHECK.due("nothing alone", program(cast).cast(0), 0);
        CHECK.due("3, 4", behind(choose(0, 0, 3, 4), cast).cast(6), 0);
        CHECK.due("0, 3, 4", behind(choose(0, 0, 0, 3, 4), cast).cast(9), 0);
        CHECK.due("0, 2", behind(choose(0, 0, 0, 2), cast).cast(6), 1);
        CHECK.due("3, 2", behind(choose(0, 0, 3, 2), cast).cast(6), 1);
        CHECK.due("1, 2", behind(choose(0, 0, 1, 2), cast).cast(6), 2);
        CHECK.due("all but 0, 3, 4", behind(choose(0, 0, 1, 2, 5, 6, 7, 8, 9), cast).cast(21), 2);
        CHECK.due("all to 0", behind(choose(0, 0, ALL_KINDS), s(6, 0, 0, 1)).cast(30), 0);
    }

    private static void castNoSuch() {
        CHECK.says("-1; -3 it is another one, or never come to.");
        NullKinds n = program(s(6, 0, 0, 0), s(23), s(6, 0, 0, 0));
        for (int step : new int[] {LOWEST, -1, 3, 31, 32, HIGHEST}) {
            CHECK.due("cast(" + step + ")", n.cast(step), -1);
        }
        CHECK.due("cast(0)", n.cast(0), 0);
        CHECK.due("another one", n.cast(1), -3);
        CHECK.due("never come to", n.cast(2), -3);
        for (int code = 0; code <= 23; code++) {
            int[] step = s(code, 0, code == 1 ? 1 : code == 2 ? 5 : 0);
            CHECK.due("code " + code, program(step).cast(0), code == 6 ? 0 : -3);
            CHECK.due("code " + code + ", never come to", program(s(23), step).cast(1), -3);
        }
    }

    private static void allOutside() {
        CHECK.says("ALL NEXTS (0), THINGS (1), BOLTS (2). -2.");
        NullKinds n = program(s(1, 0, 4), s(2, 1, 7), s(2, 2, 8), s(1, 3, 1), s(8, 0, 1), s(10, 1, 3, 0), s(10, 2, 0, 0));
        alls(n, bits(0, 7), bits(0, 1), bits(0, 4));
        for (int what : new int[] {LOWEST, -1, 3, 4, HIGHEST}) {
            CHECK.due("all(" + what + ")", n.all(what), -2);
            CHECK.due("all(" + what + ") of no STEPS", new NullKinds().all(what), -2);
        }
    }
}
