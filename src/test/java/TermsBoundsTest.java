/** Boundary cases of the terms: kinds, types, objects, cells, variables, numbers. A method a sentence. */
public final class TermsBoundsTest extends Programs {
    private static final Check CHECK = new Check("TermsBoundsTest");
    private static final int LOWEST = Integer.MIN_VALUE;
    private static final int HIGHEST = Integer.MAX_VALUE;

    private static final String[] TYPES = {
        "0 any (1 to 9)", "1 things (1 to 4)", "2 (2)", "3 (3, 4)", "4 (4)", "5 those with a FACE (2, 4)", "6 (5)",
        "7 (6)", "8 arrays of things (7, 8)", "9 (8)", "10 (9)",
    };
    private static final int[][] KINDS_OF = {
        {1, 2, 3, 4, 5, 6, 7, 8, 9}, {1, 2, 3, 4}, {2}, {3, 4}, {4}, {2, 4}, {5}, {6}, {7, 8}, {8}, {9},
    };

    public static void main(String[] args) {
        kindsHaveTheirNumbers();
        for (int type = 0; type <= 10; type++) {
            typeHasItsKinds(type);
        }
        nothingIsOfNoType();
        objectsAreNumberedFromZero();
        nextIsNothingAtFirst();
        tagHasTheNumber();
        twiceIsTwoTimesThat();
        lengthsAreKept();
        intsAreZeroAtFirst();
        cellsAreNothingAtFirst();
        cellsOfThingsTakeThings();
        cellsOfBoltsTakeBolts();
        rowsHaveIntsAtFirst();
        rowsAreNoObjects();
        variablesAreNothingAtFirst();
        numbersHave32Bits();
        numbersAreTold();
        stepsAre32();
        notNamedIsNotLookedAt();
        CHECK.end();
    }

    private static NullKinds ran(int x, int y, int answer, int[]... steps) {
        NullKinds n = program(steps);
        CHECK.due("run(" + x + ", " + y + ")", n.run(x, y), answer);
        return n;
    }

    private static void kindsHaveTheirNumbers() {
        CHECK.says("KINDS: 0 nothing, 1 THING, 2 NAIL, 3 BOLT, 4 SCREW, 5 INTS, 6 BYTES, 7 THINGS, 8 BOLTS, 9 ROWS.");
        for (int kind = 0; kind <= 9; kind++) {
            NullKinds n = ran(0, 1, 0, get(0, kind), s(3, 1, 0));
            CHECK.due("variable(0, 0)", n.variable(0, 0), kind);
            CHECK.due("seen(1, 0)", n.seen(1, 0), bits(kind));
            CHECK.due("may(1, 0)", n.may(1, 0), bits(kind));
        }
    }

    private static boolean isOf(int kind, int type) {
        for (int one : KINDS_OF[type]) {
            if (one == kind) {
                return true;
            }
        }
        return false;
    }

    private static void typeHasItsKinds(int type) {
        CHECK.says(TYPES[type]);
        for (int kind = 1; kind <= 9; kind++) {
            boolean is = isOf(kind, type);
            NullKinds jump = ran(0, 1, is ? 0 : 1, get(0, kind), s(4, 0, type, 3), s(21));
            CHECK.due("kind " + kind + " told ahead at the step jumped to", jump.may(2, 0), is ? 0 : bits(kind));
            NullKinds cast = ran(0, 1, is ? 0 : 1, get(0, kind), s(6, 0, type, 1));
            CHECK.due("variable(1, 0)", cast.variable(1, 0), is ? kind : 0);
            CHECK.due("cast(1) of kind " + kind, cast.cast(1), is ? 0 : 2);
        }
    }

    private static void nothingIsOfNoType() {
        CHECK.says("Nothing is of no TYPE, but may be CAST to each.");
        for (int type = 0; type <= 10; type++) {
            NullKinds jump = ran(0, 1, 1, s(4, 0, type, 2), s(21));
            CHECK.due("the step that is not jumped over", jump.ran(3), 1);
            NullKinds cast = ran(0, 1, 0, s(1, 1, 1), s(6, 0, type, 1));
            CHECK.due("nothing comes of the CAST", cast.variable(1, 0), 0);
            CHECK.due("cast(1)", cast.cast(1), 0);
        }
    }

    private static void objectsAreNumberedFromZero() {
        CHECK.says("OBJECTS are numbered as they are made in a RUN, from 0 on.");
        NullKinds n = program(s(1, 0, 1), s(2, 1, 9, 1), s(2, 2, 5, 0, 4), s(21), s(2, 3, 6, 1), s(1, 0, 2), s(1, 4, 3));
        for (int turn = 0; turn < 2; turn++) {
            CHECK.due("run", n.run(-1, 20), 0);
            CHECK.due("the first, of which nothing is left", n.variable(0, 1), 3);
            CHECK.due("the second", n.variable(1, 1), 1);
            CHECK.due("one that a FAULT kept from being made", n.variable(2, 1), -3);
            CHECK.due("the next behind it", n.variable(3, 1), 2);
            CHECK.due("the last", n.variable(4, 1), 4);
        }
        NullKinds first = ran(0, 0, 0, s(1, 5, 4));
        CHECK.due("the first of all", first.variable(5, 1), 0);
        NullKinds most = program(makes(40));
        CHECK.due("run", most.run(0, 0), 0);
        CHECK.due("the last of all", most.variable(5, 1), 39);
        CHECK.due("run anew", most.run(39, 0), 0);
        CHECK.due("from 0 on anew", most.variable(5, 1), 0);
    }

    private static void nextIsNothingAtFirst() {
        CHECK.says("Things have a NEXT (nothing at first).");
        for (int kind = 1; kind <= 4; kind++) {
            NullKinds n = program(s(1, 0, kind), s(1, 1, 1), s(7, 1, 0), s(8, 0, 0));
            for (int turn = 0; turn < 2; turn++) {
                CHECK.due("run", n.run(0, 0), 0);
                CHECK.due("NEXT at first", n.variable(1, 0), 0);
                CHECK.due("NEXT then", n.variable(0, 3), kind);
            }
        }
    }

    private static void tagHasTheNumber() {
        CHECK.says("its TAG is 100 (NAIL) or 200 (SCREW) and its number");
        CHECK.due("run", ran(0, 0, 0, s(1, 0, 2), s(11, 3, 0)).number(3), 100);
        CHECK.due("run", ran(0, 0, 0, s(1, 0, 4), s(11, 3, 0)).number(3), 200);
        CHECK.due("the last NAIL", ran(0, 0, 0, join(makes(39), s(1, 0, 2), s(11, 3, 0))).number(3), 139);
        CHECK.due("the last SCREW", ran(0, 0, 0, join(makes(39), s(1, 0, 4), s(11, 3, 0))).number(3), 239);
    }

    private static void twiceIsTwoTimesThat() {
        CHECK.says("TWICE is two times that, of a SCREW 1 more.");
        CHECK.due("run", ran(0, 0, 0, s(1, 0, 2), s(12, 3, 0)).number(3), 200);
        CHECK.due("run", ran(0, 0, 0, s(1, 0, 4), s(12, 3, 0)).number(3), 401);
        CHECK.due("the last NAIL", ran(0, 0, 0, join(makes(39), s(1, 0, 2), s(12, 3, 0))).number(3), 278);
        CHECK.due("the last SCREW", ran(0, 0, 0, join(makes(39), s(1, 0, 4), s(12, 3, 0))).number(3), 479);
    }

    private static void lengthsAreKept() {
        CHECK.says("Arrays have a LENGTH");
        for (int kind = 5; kind <= 9; kind++) {
            for (int length : new int[] {0, 1, 19, 20}) {
                NullKinds n = ran(0, length, 0, get(0, kind), s(13, 3, 0));
                CHECK.due("LENGTH of kind " + kind, n.number(3), length);
                CHECK.due("variable(0, 2) of kind " + kind, n.variable(0, 2), length);
            }
        }
    }

    private static void intsAreZeroAtFirst() {
        CHECK.says("of INTS numbers (0 at first)");
        for (int cell : new int[] {0, 19}) {
            // N(2) becomes the number that is there at first, then N(3) the one that was set.
            NullKinds n = program(get(0, 5), s(14, 2, 0, 0), s(16, 3, HIGHEST), s(15, 0, 0, 3), s(16, 3, 0), s(14, 3, 0, 0));
            for (int turn = 0; turn < 2; turn++) {
                CHECK.due("run", n.run(cell, 20), 0);
                CHECK.due("cell " + cell + " at first", n.number(2), 0);
                CHECK.due("cell " + cell + " then", n.number(3), HIGHEST);
            }
        }
    }

    private static void cellsAreNothingAtFirst() {
        CHECK.says("(nothing at first)");
        for (int kind = 7; kind <= 8; kind++) {
            for (int cell : new int[] {0, 19}) {
                NullKinds n = program(get(0, kind), s(1, 1, 3), s(1, 2, 3), s(9, 1, 0, 0), s(10, 0, 2, 0), s(9, 3, 0, 0));
                for (int turn = 0; turn < 2; turn++) {
                    CHECK.due("run", n.run(cell, 20), 0);
                    CHECK.due("cell " + cell + " at first", n.variable(1, 0), 0);
                    CHECK.due("cell " + cell + " then", n.variable(3, 1), 2);
                }
            }
        }
        // An array made where INTS full of numbers stood in the RUN before has none of them.
        NullKinds other = program(s(19, 0, 2, 5), s(16, 3, 20), s(2, 0, 5, 3), s(15, 0, 0, 1), s(23, 0), s(16, 3, 20),
                s(2, 0, 7, 3), s(16, 3, 0), s(9, 1, 0, 3));
        CHECK.due("run with INTS", other.run(0, 0), 0);
        CHECK.due("run with THINGS", other.run(-1, 0), 0);
        CHECK.due("its cell 0", other.variable(1, 0), 0);
    }

    private static void cellsOfThingsTakeThings() {
        CHECK.says("of THINGS nothing or things");
        for (int kind = 0; kind <= 9; kind++) {
            NullKinds n = ran(0, 1, kind > 4 ? 1 : 0, get(0, 7), get(1, kind), s(10, 0, 1, 0), s(9, 2, 0, 0));
            CHECK.due("the cell has kind", n.variable(2, 0), kind > 4 ? 0 : kind);
        }
    }

    private static void cellsOfBoltsTakeBolts() {
        CHECK.says("of BOLTS nothing or 3, 4");
        for (int kind = 0; kind <= 9; kind++) {
            boolean good = kind == 0 || kind == 3 || kind == 4;
            NullKinds n = ran(0, 1, good ? 0 : 1, get(0, 8), get(1, kind), s(10, 0, 1, 0), s(9, 2, 0, 0));
            CHECK.due("the cell has kind", n.variable(2, 0), good ? kind : 0);
        }
    }

    private static void rowsHaveIntsAtFirst() {
        CHECK.says("each cell of ROWS has INTS of two at first");
        for (int to = 7; to <= 8; to++) {
            // Its cells 0 to 19 go, one after another, to where INTS can not be.
            NullKinds n = ran(0, 20, 1, get(0, 9), get(1, to), s(16, 3, 1), s(22, 0, 1, 0));
            CHECK.due("INTS are no KIND for it", n.ran(2), 4);
        }
        CHECK.says("INTS or nothing");
        NullKinds rows = ran(0, 20, 0, get(0, 9), get(1, 9), s(16, 3, 20), s(22, 0, 1, 0), get(2, 7), s(22, 2, 0, 0),
                s(22, 0, 2, 0), s(22, 0, 1, 0));
        CHECK.due("all of its cells became nothing, and went on", rows.ran(0), 8);
        NullKinds thing = ran(0, 20, 1, get(0, 9), get(1, 7), s(1, 2, 1), s(16, 3, 19), s(10, 1, 2, 3), s(16, 3, 20),
                s(22, 1, 0, 0));
        CHECK.due("a thing in the last cell does not go", thing.ran(2), 4);
    }

    private static void rowsAreNoObjects() {
        CHECK.says("(that are no OBJECTS of their own)");
        NullKinds n = ran(0, 20, 0, get(0, 9), s(1, 1, 4));
        CHECK.due("OBJECTS made", n.ran(4), 2);
        CHECK.due("the number of the one behind ROWS", n.variable(1, 1), 1);
        NullKinds full = ran(0, 20, 0, join(makes(39), get(0, 9)));
        CHECK.due("ROWS as the 40th", full.variable(0, 1), 39);
        CHECK.due("OBJECTS made", full.ran(4), 40);
    }

    private static void variablesAreNothingAtFirst() {
        CHECK.says("VARIABLES are 0 .. 5, nothing at first");
        for (int v = 0; v <= 5; v++) {
            NullKinds n = program(s(1, v, 2));
            for (int turn = 0; turn < 2; turn++) {
                CHECK.due("run", n.run(0, 0), 0);
                CHECK.due("V(" + v + ") at first", n.seen(0, v), bits(0));
                CHECK.due("V(" + v + ") then", n.variable(v, 0), 2);
                CHECK.due("another one", n.variable((v + 1) % 6, 0), 0);
            }
        }
    }

    private static void numbersHave32Bits() {
        CHECK.says("NUMBERS 0 .. 3 (32 bits)");
        for (int k = 0; k <= 3; k++) {
            int other = (k + 1) % 4;
            NullKinds up = ran(0, 0, 0, s(16, k, HIGHEST), s(16, other, 1), s(17, k, other));
            CHECK.due("the highest and 1", up.number(k), LOWEST);
            NullKinds down = ran(0, 0, 0, s(16, k, LOWEST), s(16, other, -1), s(17, k, other));
            CHECK.due("the lowest and -1", down.number(k), HIGHEST);
            NullKinds self = ran(0, 0, 0, s(16, k, LOWEST), s(17, k, k));
            CHECK.due("the lowest and itself", self.number(k), 0);
        }
    }

    private static void numbersAreTold() {
        CHECK.says("in a RUN 0 and 1 are told, others 0 at first");
        NullKinds n = program(s(19, 2, 3, 6), s(19, 3, 2, 6), s(16, 2, 7), s(16, 3, 8), s(19, 0, 1, 7), s(23, 0), s(21), s(23, 1));
        CHECK.due("run", n.run(HIGHEST, LOWEST), 0);
        CHECK.due("ENDED with N(0)", n.ran(1), HIGHEST);
        CHECK.due("run", n.run(LOWEST, HIGHEST), 0);
        CHECK.due("ENDED with N(1)", n.ran(1), HIGHEST);
        NullKinds none = new NullKinds();
        CHECK.due("run of no STEPS", none.run(LOWEST, HIGHEST), 0);
        long[] due = {LOWEST, HIGHEST, 0, 0};
        for (int k = 0; k <= 3; k++) {
            CHECK.due("number(" + k + ")", none.number(k), due[k]);
        }
    }

    private static void stepsAre32() {
        CHECK.says("STEPS 0 .. 31");
        NullKinds n = new NullKinds();
        for (int i = 0; i < 31; i++) {
            n.step(20, 31, 0, 0, -1);
        }
        CHECK.due("the last step", n.step(6, 0, 10, 5, -1), 31);
        CHECK.due("run", n.run(0, 0), 0);
        CHECK.due("STEPS done", n.ran(0), 2);
        for (int v = 0; v <= 5; v++) {
            CHECK.due("seen(31, " + v + ")", n.seen(31, v), bits(0));
            CHECK.due("may(31, " + v + ")", n.may(31, v), bits(0));
            CHECK.due("may(30, " + v + ")", n.may(30, v), 0);
        }
        CHECK.due("cast(31)", n.cast(31), 0);
        CHECK.says("a HANDLER (a STEP, or -1)");
        NullKinds fails = new NullKinds();
        fails.step(21, 0, 0, 0, 31);
        for (int i = 1; i < 32; i++) {
            fails.step(21, 0, 0, 0, -1);
        }
        CHECK.due("run", fails.run(0, 0), 1);
        CHECK.due("the STEP that had the FAULT", fails.ran(3), 31);
        CHECK.due("had(31)", fails.had(31), bits(7));
        CHECK.due("faults(31)", fails.faults(31), bits(7));
        CHECK.due("faults(30)", fails.faults(30), 0);
    }

    private static void notNamedIsNotLookedAt() {
        CHECK.says("what a code does not name is not looked at");
        int[][] named = {
            {0, 0}, {1, 0, 1}, {3, 0, 1}, {5, 1, 9, 1}, {7, 1, 0}, {8, 0, 0}, {11, 3, 0}, {12, 3, 0}, {13, 3, 0},
            {16, 3, 9}, {17, 3, 1}, {18, 3, 1}, {20, 2}, {21}, {23, 1},
        };
        String[] names = {"a", "ab", "ab", "ac", "ab", "ab", "ab", "ab", "ab", "ab", "ab", "ab", "a", "", "a"};
        for (int i = 0; i < named.length; i++) {
            for (int wild : new int[] {LOWEST, -1, 33, HIGHEST}) {
                int[] step = s(named[i]);
                int[] other = step.clone();
                for (int place = 0; place < 3; place++) {
                    if (names[i].indexOf('a' + place) < 0) {
                        other[1 + place] = wild;
                    }
                }
                same("code " + step[0] + " with " + wild, program(get(0, 2), step), program(get(0, 2), other));
            }
        }
    }

    private static void same(String what, NullKinds one, NullKinds other) {
        CHECK.due(what + ": run", other.run(3, 5), one.run(3, 5));
        for (int i = 0; i <= 3; i++) {
            CHECK.due(what + ": ran(" + i + ")", other.ran(i), one.ran(i));
            CHECK.due(what + ": number(" + i + ")", other.number(i), one.number(i));
            CHECK.due(what + ": variable(0, " + i + ")", other.variable(0, i), one.variable(0, i));
            CHECK.due(what + ": variable(1, " + i + ")", other.variable(1, i), one.variable(1, i));
        }
        CHECK.due(what + ": faults(1)", other.faults(1), one.faults(1));
    }
}
