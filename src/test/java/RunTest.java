/** Promise 4: what each code does in a run, its faults and their order, handlers, and the limits. */
public final class RunTest extends Programs {
    private static final Check CHECK = new Check("RunTest");
    private static final int NOTHING = 1;
    private static final int CAST = 2;
    private static final int INDEX = 3;
    private static final int STORE = 4;
    private static final int BELOW = 5;
    private static final int BY_ZERO = 6;
    private static final int FAIL = 7;
    private static final int LARGE = 8;

    // The kinds that are of each type.
    private static final int[][] OF_TYPE = {
        {1, 2, 3, 4, 5, 6, 7, 8, 9}, {1, 2, 3, 4}, {2}, {3, 4}, {4}, {2, 4}, {5}, {6}, {7, 8}, {8}, {9},
    };

    public static void main(String[] args) {
        makes();
        types();
        nexts();
        cells();
        cellsWithFaults();
        faces();
        lengths();
        ints();
        numbers();
        jumps();
        moves();
        movesWithFaults();
        lastCells();
        handlers();
        limits();
        CHECK.end();
    }

    /** Behind the steps the last one must have this fault, 0 for none. */
    private static NullKinds after(String what, int fault, int x, int y, int[]... steps) {
        NullKinds n = program(steps);
        CHECK.due(what + ": run", n.run(x, y), fault == 0 ? 0 : 1);
        CHECK.due(what + ": fault", n.ran(2), fault);
        CHECK.due(what + ": step of the fault", n.ran(3), fault == 0 ? -3 : steps.length - 1);
        return n;
    }

    private static void makes() {
        for (int kind = 1; kind <= 4; kind++) {
            CHECK.due("MAKE", after("MAKE", 0, 0, 0, s(1, 5, kind)).variable(5, 0), kind);
        }
        for (int kind = 5; kind <= 9; kind++) {
            CHECK.due("ARRAY 0", after("ARRAY 0", 0, 0, 0, s(2, 5, kind, 0)).variable(5, 2), 0);
            CHECK.due("ARRAY 20", after("ARRAY 20", 0, 20, 0, s(2, 5, kind, 0)).variable(5, 2), 20);
            NullKinds large = after("ARRAY 21", LARGE, 21, 0, s(2, 5, kind, 0));
            CHECK.due("ARRAY 21 leaves V", large.variable(5, 0), 0);
            CHECK.due("ARRAY 21 makes none", large.ran(4), 0);
            after("ARRAY -1", BELOW, -1, 0, s(2, 5, kind, 0));
            after("ARRAY lowest", BELOW, Integer.MIN_VALUE, 0, s(2, 5, kind, 0));
            after("ARRAY highest", LARGE, Integer.MAX_VALUE, 0, s(2, 5, kind, 0));
        }
        NullKinds set = after("SET", 0, 0, 0, s(1, 0, 1), s(1, 1, 4), s(3, 2, 1), s(0, 1));
        CHECK.due("SET", set.variable(2, 1), 1);
        CHECK.due("becomes nothing", set.variable(1, 0), 0);
        // 40 objects in a loop; then another MAKE, and an ARRAY of a length that is told.
        for (int length : new int[] {0, -1}) {
            NullKinds full = program(s(16, 2, 1), s(16, 1, 40), s(1, 0, 1), s(17, 3, 2), s(19, 3, 1, 2),
                    s(1, 1, 1, 0, 6), s(2, 1, 5, 0));
            CHECK.due("ARRAY behind 40 objects", full.run(length, 0), 1);
            CHECK.due("ARRAY behind 40 objects", full.ran(2), length < 0 ? BELOW : LARGE);
            CHECK.due("MAKE behind 40 objects", full.number(2), LARGE);
            CHECK.due("its objects", full.ran(4), 40);
            CHECK.due("the last one's number", full.variable(0, 1), 39);
            CHECK.due("V stays", full.variable(1, 0), 0);
        }
    }

    private static void types() {
        for (int type = 0; type <= 10; type++) {
            for (int kind = 0; kind <= 9; kind++) {
                boolean is = false;
                for (int one : OF_TYPE[type]) {
                    is = is || one == kind;
                }
                String what = "kind " + kind + ", type " + type;
                NullKinds jump = after(what, 0, 0, 2, get(0, kind), s(4, 0, type, 3), s(16, 3, 7));
                CHECK.due(what + ": jump", jump.number(3), is ? 0 : 7);
                boolean good = is || kind == 0;
                NullKinds cast = after(what + ": CAST", good ? 0 : CAST, 0, 2, get(0, kind), s(1, 1, 1), s(6, 0, type, 1));
                CHECK.due(what + ": CAST gives", cast.variable(1, 0), good ? kind : 1);
            }
        }
    }

    private static void nexts() {
        for (int kind = 0; kind <= 9; kind++) {
            int fault = kind == 0 ? NOTHING : kind > 4 ? CAST : 0;
            NullKinds get = after("NEXT at first, kind " + kind, fault, 0, 2, s(1, 1, 1), get(0, kind), s(7, 1, 0));
            CHECK.due("NEXT at first", get.variable(1, 0), fault == 0 ? 0 : 1);
            after("set NEXT, kind " + kind, fault, 0, 2, get(0, kind), s(8, 0, 0));
            // NEXT may be of each kind, arrays and nothing too.
            NullKinds all = after("NEXT of kind " + kind, 0, 0, 2, s(1, 0, 1), get(1, kind), s(8, 0, 1), s(7, 2, 0));
            CHECK.due("NEXT of kind " + kind, all.variable(0, 3), kind);
            CHECK.due("NEXT of kind " + kind, all.variable(2, 0), kind);
        }
        NullKinds self = after("NEXT of itself", 0, 0, 0, s(1, 0, 3), s(8, 0, 0), s(7, 0, 0));
        CHECK.due("NEXT of itself", self.variable(0, 3), 3);
    }

    private static void cells() {
        NullKinds x = after("cells", 0, 1, 3, s(2, 0, 7, 1), s(1, 1, 2), s(10, 0, 1, 0), s(9, 2, 0, 0),
                s(9, 3, 0, 3));
        CHECK.due("a cell that was set", x.variable(2, 1), 1);
        CHECK.due("a cell that was not", x.variable(3, 0), 0);
        NullKinds emptied = after("a cell becomes nothing", 0, 1, 3, s(2, 0, 8, 1), s(1, 1, 4), s(10, 0, 1, 0),
                s(10, 0, 2, 0), s(9, 1, 0, 0));
        CHECK.due("a cell becomes nothing", emptied.variable(1, 0), 0);
        for (int kind = 0; kind <= 9; kind++) {
            int fault = kind == 0 ? NOTHING : kind == 7 || kind == 8 ? 0 : CAST;
            after("cell of kind " + kind, fault, 0, 1, get(0, kind), s(9, 1, 0, 0));
            after("set cell of kind " + kind, fault, 0, 1, get(0, kind), s(10, 0, 1, 0));
            for (int array = 7; array <= 8; array++) {
                int stored = kind > 4 ? CAST : array == 8 && (kind == 1 || kind == 2) ? STORE : 0;
                NullKinds set = after("kind " + kind + " into a cell of " + array, stored, 0, 1, get(0, array), get(1, kind),
                        s(10, 0, 1, 0));
                CHECK.due("the array stays", set.variable(0, 0), array);
            }
        }
    }

    private static void cellsWithFaults() {
        for (int index : new int[] {-1, 2, 3, Integer.MIN_VALUE, Integer.MAX_VALUE}) {
            after("cell " + index, INDEX, index, 2, get(0, 7), s(9, 1, 0, 0));
            after("set cell " + index, INDEX, index, 2, get(0, 7), s(10, 0, 1, 0));
            after("index ahead of store", INDEX, index, 2, get(0, 8), get(1, 1), s(10, 0, 1, 0));
        }
        after("CAST of b ahead of nothing", CAST, 0, 1, get(1, 5), s(10, 0, 1, 0));
        after("CAST of b ahead of index", CAST, 9, 1, get(0, 7), get(1, 9), s(10, 0, 1, 0));
        after("nothing ahead of index", NOTHING, 9, 1, get(1, 1), s(10, 0, 1, 0));
        after("an array into itself", CAST, 0, 1, get(0, 7), s(10, 0, 0, 0));
    }

    private static void faces() {
        for (int kind = 0; kind <= 9; kind++) {
            int fault = kind == 0 ? NOTHING : kind == 2 || kind == 4 ? 0 : CAST;
            NullKinds tag = after("TAG of kind " + kind, fault, 0, 1, get(1, 1), get(1, 1), get(0, kind), s(11, 3, 0));
            CHECK.due("TAG of kind " + kind, tag.number(3), kind == 2 ? 102 : kind == 4 ? 202 : 0);
            NullKinds twice = after("TWICE of kind " + kind, fault, 0, 1, get(1, 1), get(1, 1), get(0, kind), s(12, 3, 0));
            CHECK.due("TWICE of kind " + kind, twice.number(3), kind == 2 ? 204 : kind == 4 ? 405 : 0);
        }
    }

    private static void lengths() {
        for (int kind = 0; kind <= 9; kind++) {
            int fault = kind == 0 ? NOTHING : kind < 5 ? CAST : 0;
            NullKinds x = after("LENGTH of kind " + kind, fault, 0, 13, get(0, kind), s(13, 3, 0));
            CHECK.due("LENGTH of kind " + kind, x.number(3), fault == 0 ? 13 : 0);
        }
    }

    private static void ints() {
        for (int kind = 0; kind <= 9; kind++) {
            int fault = kind == 0 ? NOTHING : kind == 5 ? 0 : CAST;
            after("number in kind " + kind, fault, 0, 1, get(0, kind), s(14, 3, 0, 0));
            after("set number in kind " + kind, fault, 0, 1, get(0, kind), s(15, 0, 0, 0));
        }
        for (int index : new int[] {-1, 2, 3, Integer.MIN_VALUE, Integer.MAX_VALUE}) {
            after("INTS " + index, INDEX, index, 2, get(0, 5), s(14, 3, 0, 0));
            after("set INTS " + index, INDEX, index, 2, get(0, 5), s(15, 0, 0, 1));
        }
        NullKinds x = after("INTS", 0, -77, 2, get(0, 5), s(16, 3, 1), s(15, 0, 3, 0), s(14, 1, 0, 3),
                s(14, 3, 0, 2));
        CHECK.due("a number that was set", x.number(1), -77);
        CHECK.due("a number that was not", x.number(3), 0);
        // Of another run nothing is left in cells and nexts.
        NullKinds anew = program(s(2, 0, 5, 1), s(14, 3, 0, 2), s(15, 0, 2, 0));
        CHECK.due("run", anew.run(9, 1), 0);
        CHECK.due("run anew", anew.run(9, 1), 0);
        CHECK.due("cells anew", anew.number(3), 0);
    }

    private static void numbers() {
        int least = Integer.MIN_VALUE;
        int[][] pairs = {{7, 2}, {-7, 2}, {7, -2}, {-7, -2}, {0, 5}, {least, -1}, {least, 1}, {Integer.MAX_VALUE, 1}, {5, 5}};
        for (int[] p : pairs) {
            CHECK.due(p[0] + " + " + p[1], after("ADD", 0, p[0], p[1], s(17, 0, 1)).number(0), p[0] + p[1]);
            CHECK.due(p[0] + " / " + p[1], after("DIVIDE", 0, p[0], p[1], s(18, 0, 1)).number(0), p[0] / p[1]);
        }
        CHECK.due("by 0", after("by 0", BY_ZERO, 5, 0, s(18, 0, 1)).number(0), 5);
        after("0 by itself", BY_ZERO, 0, 0, s(18, 0, 0));
        CHECK.due("3 by itself", after("3 by itself", 0, 3, 0, s(18, 0, 0)).number(0), 1);
        CHECK.due("3 and itself", after("3 and itself", 0, 3, 0, s(17, 0, 0)).number(0), 6);
        for (int b : new int[] {least, -1, 0, 33, Integer.MAX_VALUE}) {
            CHECK.due("N becomes " + b, after("N", 0, 0, 0, s(16, 3, b)).number(3), b);
        }
        CHECK.due("END", after("END", 0, 0, -5, s(23, 1)).ran(1), -5);
        NullKinds fail = after("FAIL", FAIL, 1, 2, s(21));
        CHECK.due("without a handler N(2) stays", fail.number(2), 0);
    }

    private static void jumps() {
        int least = Integer.MIN_VALUE;
        int[][] pairs = {{1, 2}, {2, 1}, {2, 2}, {least, Integer.MAX_VALUE}, {Integer.MAX_VALUE, least}, {-1, 0}};
        for (int[] p : pairs) {
            NullKinds x = after("if less", 0, p[0], p[1], s(19, 0, 1, 2), s(16, 3, 7));
            CHECK.due(p[0] + " less than " + p[1], x.number(3), p[0] < p[1] ? 0 : 7);
        }
        for (int kind = 0; kind <= 9; kind++) {
            NullKinds x = after("if nothing", 0, 0, 2, get(0, kind), s(5, 0, 0, 3), s(16, 3, 7));
            CHECK.due("if nothing, kind " + kind, x.number(3), kind == 0 ? 0 : 7);
        }
        for (int to : new int[] {2, 3, 31, 32}) {
            NullKinds x = after("to step " + to, 0, 4, 0, s(20, to), s(16, 0, 9));
            CHECK.due("steps", x.ran(0), 1);
            CHECK.due("behind the last step it ends with 0", x.ran(1), 0);
        }
        NullKinds grown = program(s(20, 1));
        CHECK.due("run", grown.run(0, 8), 0);
        CHECK.due("a step where the jump goes", grown.step(23, 1, 0, 0, -1), 1);
        CHECK.due("run", grown.run(0, 8), 0);
        CHECK.due("it ends there", grown.ran(1), 8);
    }

    /** V(0) of kind 'from' and V(1) of 'to', both of length y; then the first N(3) cells from N(0) on. */
    private static NullKinds move(int fault, int from, int to, int x, int y, int count) {
        String what = "move from " + from + " to " + to + ", " + count + " cells from " + x + " on";
        return after(what, fault, x, y, get(0, from), get(1, to), s(16, 3, count), s(22, 0, 1, 0));
    }

    private static void moves() {
        for (int from = 0; from <= 9; from++) {
            for (int to = 0; to <= 9; to++) {
                boolean none = from == 0 || to == 0;
                boolean unfit = from < 5 || to < 5 || from != to && (from < 7 || to < 7);
                int fault = none ? NOTHING : unfit ? STORE : 0;
                move(fault, from, to, 0, 3, 0);
                // Cells of ROWS have INTS at first, those of THINGS and BOLTS nothing.
                boolean rows = from == 9 && (to == 7 || to == 8);
                move(fault != 0 ? fault : rows ? STORE : 0, from, to, 1, 3, 2);
                move(fault != 0 ? fault : INDEX, from, to, 2, 3, 2);
                move(fault != 0 ? fault : INDEX, from, to, 0, 3, -1);
                move(fault != 0 ? fault : INDEX, from, to, -1, 3, 0);
                move(fault != 0 ? fault : INDEX, from, to, 0, 3, 4);
                move(fault != 0 ? fault : INDEX, from, to, Integer.MAX_VALUE, 3, 3);
                move(fault != 0 ? fault : INDEX, from, to, 1, 3, Integer.MAX_VALUE);
                move(fault != 0 ? fault : INDEX, from, to, Integer.MIN_VALUE, 3, Integer.MIN_VALUE);
                move(fault, from, to, 3, 3, 0);
                move(fault != 0 ? fault : INDEX, from, to, 4, 3, 0);
            }
        }
        for (int kind = 5; kind <= 9; kind++) {
            move(0, kind, kind, 0, 20, 20);
            move(INDEX, kind, kind, 1, 20, 20);
            move(INDEX, kind, kind, 0, 20, 21);
        }
        // INTS 5, 6, 7 over itself: as if by way of others, 5, 5, 6.
        NullKinds x = after("over itself", 0, 1, 3, get(0, 5), s(16, 2, 5), s(15, 0, 3, 2), s(16, 2, 6),
                s(15, 0, 0, 2), s(16, 3, 2), s(16, 2, 7), s(15, 0, 3, 2), s(22, 0, 0, 0),
                s(14, 1, 0, 0), s(14, 2, 0, 3));
        CHECK.due("cell 1 of it", x.number(1), 5);
        CHECK.due("cell 2 of it", x.number(2), 6);
    }

    private static void movesWithFaults() {
        // THINGS with a BOLT, a THING, a BOLT into BOLTS: the first is there, then 4.
        NullKinds x = program(get(0, 7), get(1, 8), get(2, 3), get(3, 1), s(10, 0, 2, 3), s(16, 2, 1),
                s(10, 0, 3, 2), s(16, 2, 2), s(10, 0, 2, 2), s(16, 3, 3), s(22, 0, 1, 0, 11),
                s(16, 3, 1), s(9, 4, 1, 0), s(9, 5, 1, 3), s(23, 2));
        CHECK.due("run", x.run(0, 3), 0);
        CHECK.due("the fault", x.ran(1), STORE);
        CHECK.due("the cell before it is there", x.variable(4, 0), 3);
        CHECK.due("the cell itself is not", x.variable(5, 0), 0);
        // ROWS get nothing from THINGS; then that one, and no other, may go back.
        NullKinds rows = program(get(0, 7), get(1, 9), s(16, 3, 1), s(22, 0, 1, 0), get(2, 3), s(10, 0, 2, 0),
                s(22, 1, 0, 0), s(9, 3, 0, 0), s(16, 3, 2), s(22, 1, 0, 0));
        CHECK.due("run", rows.run(0, 2), 1);
        CHECK.due("nothing went back", rows.variable(3, 0), 0);
        CHECK.due("the fault", rows.ran(2), STORE);
        CHECK.due("its step", rows.ran(3), 9);
        // Things may not go into ROWS, and INTS that are in ROWS into no others.
        for (int kind = 1; kind <= 4; kind++) {
            after("kind " + kind + " into ROWS", STORE, 0, 1, get(0, 7), get(1, 9), get(2, kind), s(10, 0, 2, 0),
                    s(16, 3, 1), s(22, 0, 1, 0));
            after("kind " + kind + " into BOLTS", kind < 3 ? STORE : 0, 0, 1, get(0, 7), get(1, 8), get(2, kind),
                    s(10, 0, 2, 0), s(16, 3, 1), s(22, 0, 1, 0));
        }
        // ROWS of which a cell is nothing go into ROWS.
        after("ROWS into ROWS", 0, 0, 2, get(0, 7), get(1, 9), get(2, 9), s(16, 3, 1), s(22, 0, 1, 0), s(16, 3, 2),
                s(22, 1, 2, 0));
    }

    /** The last of 40 objects, with 20 cells: the last cell of it is used, and all of them moved. */
    private static void lastCells() {
        for (int kind = 5; kind <= 7; kind += 2) {
            NullKinds x = program(s(16, 2, 1), s(16, 3, 39), s(1, 1, 3), s(17, 0, 2), s(19, 0, 3, 2),
                    s(16, 3, 20), s(2, 0, kind, 3), s(16, 0, 19), kind == 5 ? s(15, 0, 0, 1) : s(10, 0, 1, 0),
                    s(16, 2, 0), s(22, 0, 0, 2), kind == 5 ? s(14, 2, 0, 0) : s(9, 2, 0, 0));
            CHECK.due("run", x.run(0, -9), 0);
            CHECK.due("objects", x.ran(4), 40);
            CHECK.due("the number in the last cell", x.number(2), kind == 5 ? -9 : 0);
            CHECK.due("the thing in the last cell", x.variable(2, 1), kind == 5 ? -3 : 38);
        }
    }

    private static void handlers() {
        NullKinds x = program(s(18, 0, 1, 0, 3), s(16, 0, 1), s(23, 0), s(23, 2));
        CHECK.due("with no fault the handler is not gone to", x.run(8, 2), 0);
        CHECK.due("ends with", x.ran(1), 1);
        CHECK.due("with a fault it is", x.run(8, 0), 0);
        CHECK.due("ends with", x.ran(1), BY_ZERO);
        CHECK.due("the fault is not what it was thrown by", x.ran(2), 0);
        CHECK.due("no step had it", x.ran(3), -3);
        CHECK.due("steps", x.ran(0), 2);
        NullKinds behind = program(s(21, 0, 0, 0, 32));
        CHECK.due("a handler behind the last step", behind.run(1, 1), 0);
        CHECK.due("it ends with 0", behind.ran(1), 0);
        CHECK.due("N(2) is the fault", behind.number(2), FAIL);
        NullKinds over = program(s(16, 2, 9), s(18, 2, 3, 0, 2));
        CHECK.due("run", over.run(0, 0), 0);
        CHECK.due("N(2) of the very step", over.number(2), BY_ZERO);
    }

    private static void limits() {
        // Nine faults, of which the ninth is told apart from the others: it goes to no handler.
        for (int handler : new int[] {-1, 5}) {
            NullKinds x = program(s(16, 1, 1), s(19, 3, 0, 3), s(18, 0, 2, 0, handler), s(17, 3, 1),
                    s(21, 0, 0, 0, 6), s(23, 0), s(16, 2, 0), s(20, 1));
            CHECK.due("eight faults, then 6", x.run(8, 0), 2);
            CHECK.due("it ended with nothing", x.ran(1), 0);
            CHECK.due("it was thrown by none", x.ran(2), 0);
            CHECK.due("no step", x.ran(3), -3);
            CHECK.due("N(2) stays", x.number(2), 0);
            CHECK.due("the ninth was had", x.had(2), bits(BY_ZERO));
            CHECK.due("seven faults, then 6", x.run(7, 0), handler < 0 ? 1 : 0);
            CHECK.due("the fault", x.ran(2), handler < 0 ? BY_ZERO : 0);
            CHECK.due("the step", x.ran(3), handler < 0 ? 2 : -3);
        }
        NullKinds x = program(s(17, 3, 0), s(19, 3, 1, 0));
        CHECK.due("200 steps", x.run(1, 100), 0);
        CHECK.due("its steps", x.ran(0), 200);
        CHECK.due("201 steps", x.run(1, 101), 2);
        CHECK.due("its steps", x.ran(0), 200);
        CHECK.due("what it did", x.number(3), 100);
        NullKinds thrown = program(s(17, 3, 0), s(19, 3, 1, 0), s(16, 2, 5), s(21));
        CHECK.due("the 200th step throws", thrown.run(1, 99), 1);
        CHECK.due("its steps", thrown.ran(0), 200);
    }
}
