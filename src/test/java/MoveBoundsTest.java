/** Boundary cases of code 22 in a RUN. A method a sentence. */
public final class MoveBoundsTest extends Programs {
    private static final Check CHECK = new Check("MoveBoundsTest");
    private static final int LOWEST = Integer.MIN_VALUE;
    private static final int HIGHEST = Integer.MAX_VALUE;

    public static void main(String[] args) {
        theFirstCellsGo();
        asIfByWayOfOthers();
        nothingAheadOfAll();
        noArrayOrUnlike();
        belowZero();
        notSoManyCells();
        upToTheFirst();
        upToTheFirstOfItself();
        CHECK.end();
    }

    /** V(0) of LENGTH 'one' goes into V(1) of LENGTH 'other': N(3) of its cells, from cell N(0) on. */
    private static NullKinds move(int fault, int[] kinds, int[] lengths, int count, int start) {
        String what = "from " + kinds[0] + " to " + kinds[1] + ", " + count + " cells from " + start + " on";
        NullKinds n = program(s(16, 1, lengths[0]), get(0, kinds[0]), s(16, 1, lengths[1]), get(1, kinds[1]), s(16, 3, count),
                s(22, 0, 1, 0));
        CHECK.due(what + ": run", n.run(start, 0), fault == 0 ? 0 : 1);
        CHECK.due(what + ": its FAULT", n.ran(2), fault);
        return n;
    }

    /** V(v) becomes INTS of LENGTH 'count' with the cells 1, 2, 3 .. 'count'; N(0) and N(3) end as 'count'. */
    private static int[][] counted(int v, int at, int count) {
        return new int[][] {
            s(16, 3, count), s(2, v, 5, 3), s(16, 1, 1), s(16, 0, 0), s(16, 2, 0), s(17, 2, 1), s(15, v, 0, 2), s(17, 0, 1),
            s(19, 0, 3, at + 5),
        };
    }

    private static void theFirstCellsGo() {
        CHECK.says("22 the first N(3) cells of V(a) go into V(b) from cell N(c) on");
        // INTS 1, 2, 3 into INTS of 5: two of them from cell 2 on.
        int[][] steps = join(counted(0, 0, 3), s(16, 1, 5), get(1, 5), s(16, 3, 2), s(16, 0, 2), s(22, 0, 1, 0));
        int[] due = {0, 0, 1, 2, 0};
        for (int cell = 0; cell < due.length; cell++) {
            NullKinds n = behind(steps, s(16, 0, cell), s(14, 0, 1, 0), s(23, 0));
            CHECK.due("run", n.run(0, 0), 0);
            CHECK.due("cell " + cell, n.ran(1), due[cell]);
        }
        // None at all: from behind the last cell on, too.
        NullKinds none = behind(counted(0, 0, 3), s(16, 1, 3), get(1, 5), s(16, 3, 0), s(22, 0, 1, 0), s(16, 0, 2), s(14, 0, 1, 0),
                s(23, 0));
        CHECK.due("run", none.run(0, 0), 0);
        CHECK.due("the last cell", none.ran(1), 0);
        // All of twenty.
        NullKinds all = behind(counted(0, 0, 20), s(16, 1, 20), get(1, 5), s(16, 0, 0), s(22, 0, 1, 0), s(16, 0, 19),
                s(14, 0, 1, 0), s(23, 0));
        CHECK.due("run", all.run(0, 0), 0);
        CHECK.due("the last of twenty", all.ran(1), 20);
        NullKinds bytes = move(0, k(6, 6), k(20, 20), 20, 0);
        CHECK.due("all of BYTES", bytes.ran(0), 6);
    }

    private static void asIfByWayOfOthers() {
        CHECK.says("as if by way of others");
        int[] due = {1, 1, 2, 3, 4};
        for (int cell = 0; cell < due.length; cell++) {
            NullKinds n = behind(counted(0, 0, 5), s(3, 1, 0), s(16, 3, 4), s(16, 0, 1), s(22, 0, 1, 0), s(16, 0, cell),
                    s(14, 0, 1, 0), s(23, 0));
            CHECK.due("run", n.run(0, 0), 0);
            CHECK.due("cell " + cell + " of 1, 2, 3, 4, 5 over itself", n.ran(1), due[cell]);
        }
        for (int kind = 5; kind <= 9; kind++) {
            NullKinds self = program(get(0, kind), s(16, 3, 20), s(22, 0, 0, 0));
            CHECK.due("all over itself", self.run(0, 20), 0);
            CHECK.due("one too far", self.run(1, 20), 1);
        }
    }

    private static void nothingAheadOfAll() {
        CHECK.says("1, if one is nothing");
        for (int kind = 0; kind <= 9; kind++) {
            for (int count : new int[] {0, -1, 21, HIGHEST, LOWEST}) {
                move(1, k(0, kind), k(2, 2), count, 0);
                move(1, k(kind, 0), k(2, 2), count, -1);
            }
        }
    }

    private static void noArrayOrUnlike() {
        CHECK.says("4, if one is no array, or they are of unlike KINDS and one is of 5, 6");
        for (int from = 1; from <= 9; from++) {
            for (int to = 1; to <= 9; to++) {
                boolean noArray = from < 5 || to < 5;
                boolean unlike = from != to && (from == 5 || from == 6 || to == 5 || to == 6);
                int fault = noArray || unlike ? 4 : 0;
                move(fault, k(from, to), k(2, 2), 0, 0);
                // Ahead of 3.
                move(fault != 0 ? fault : 3, k(from, to), k(2, 2), -1, 0);
                move(fault != 0 ? fault : 3, k(from, to), k(2, 2), 0, -1);
                move(fault != 0 ? fault : 3, k(from, to), k(2, 2), 3, 0);
                move(fault != 0 ? fault : 3, k(from, to), k(0, 0), 0, 1);
            }
        }
    }

    private static void belowZero() {
        CHECK.says("3, if N(3), N(c) are below 0");
        for (int kind = 5; kind <= 9; kind++) {
            for (int below : new int[] {-1, -2, -20, LOWEST}) {
                move(3, k(kind, kind), k(20, 20), below, 0);
                move(3, k(kind, kind), k(20, 20), below, 20);
                move(3, k(kind, kind), k(20, 20), 0, below);
                move(3, k(kind, kind), k(20, 20), 20, below);
                move(3, k(kind, kind), k(20, 20), below, below);
                move(3, k(kind, kind), k(0, 0), below, HIGHEST);
                move(3, k(kind, kind), k(0, 0), HIGHEST, below);
            }
            move(0, k(kind, kind), k(20, 20), 0, 0);
        }
    }

    private static void notSoManyCells() {
        CHECK.says("or one has not so many cells");
        for (int kind = 5; kind <= 9; kind++) {
            int[] both = k(kind, kind);
            move(0, both, k(3, 5), 3, 2);
            move(3, both, k(3, 5), 3, 3);
            move(3, both, k(3, 20), 4, 0);
            move(0, both, k(20, 3), 3, 0);
            move(3, both, k(20, 3), 4, 0);
            move(0, both, k(20, 3), 0, 3);
            move(3, both, k(20, 3), 0, 4);
            move(0, both, k(0, 0), 0, 0);
            move(3, both, k(0, 0), 1, 0);
            move(3, both, k(0, 0), 0, 1);
            move(0, both, k(20, 20), 20, 0);
            move(3, both, k(20, 20), 21, 0);
            move(3, both, k(20, 20), 20, 1);
            move(0, both, k(20, 20), 1, 19);
            move(3, both, k(20, 20), 1, 20);
            // Both together would wrap around.
            move(3, both, k(20, 20), 20, HIGHEST);
            move(3, both, k(20, 20), 1, HIGHEST);
            move(3, both, k(20, 20), HIGHEST, 1);
            move(3, both, k(20, 20), HIGHEST, HIGHEST);
            move(3, both, k(20, 20), 0, HIGHEST);
        }
        // Ahead of what the cells have: ROWS have INTS, that go to no THINGS.
        move(3, k(9, 7), k(1, 0), 1, 0);
        move(4, k(9, 7), k(1, 1), 1, 0);
    }

    /** THINGS of 4 with these kinds go into V(1) of kind 'to', of which V(2) to V(5) then get the cells. */
    private static NullKinds into(int to, int... cells) {
        int[][] steps = {s(16, 1, 1), s(16, 3, 4), s(2, 0, 7, 3), s(2, 1, to, 3)};
        for (int kind : cells) {
            steps = join(steps, get(2, kind), s(10, 0, 2, 0), s(17, 0, 1));
        }
        return behind(steps, s(16, 0, 0), s(22, 0, 1, 0, 18), s(16, 3, 0), s(9, 2, 1, 3), s(17, 3, 1), s(9, 3, 1, 3),
                s(17, 3, 1), s(9, 4, 1, 3), s(17, 3, 1), s(9, 5, 1, 3), s(23, 2));
    }

    private static void upToTheFirst() {
        CHECK.says("then cell by cell, up to the first that V(b) may not have: 4 (those before it are there)");
        int[][] cells = {{1, 3, 3, 3}, {3, 2, 3, 3}, {3, 4, 1, 3}, {3, 0, 4, 2}, {4, 3, 0, 4}, {1, 2, 1, 2}};
        int[] good = {0, 1, 2, 3, 4, 0};
        for (int i = 0; i < cells.length; i++) {
            NullKinds n = into(8, cells[i]);
            CHECK.due("run", n.run(0, 0), 0);
            CHECK.due("its FAULT", n.ran(1), good[i] == 4 ? 0 : 4);
            CHECK.due("had", n.had(17), good[i] == 4 ? 0 : bits(4));
            for (int cell = 0; cell < 4; cell++) {
                int due = cell < good[i] ? cells[i][cell] : 0;
                CHECK.due("cell " + cell + " of row " + i, n.variable(2 + cell, 0), due);
            }
        }
        // ROWS may have none of the things that THINGS, BOLTS have.
        for (int from = 7; from <= 8; from++) {
            for (int kind = from == 7 ? 1 : 3; kind <= 4; kind++) {
                NullKinds rows = program(get(0, from), get(1, 9), s(1, 2, kind), s(10, 0, 2, 0), s(16, 3, 1), s(22, 0, 1, 0));
                CHECK.due("kind " + kind + " into ROWS", rows.run(0, 1), 1);
                CHECK.due("its FAULT", rows.ran(2), 4);
                CHECK.due("its STEP", rows.ran(3), 5);
            }
        }
        NullKinds things = into(7, 1, 2, 3, 4);
        CHECK.due("run into THINGS", things.run(0, 0), 0);
        CHECK.due("no FAULT", things.ran(1), 0);
        CHECK.due("the last cell", things.variable(5, 0), 4);
        // Without a HANDLER the RUN is THROWN.
        NullKinds thrown = program(s(16, 3, 1), s(2, 0, 7, 1), s(2, 1, 8, 1), s(1, 2, 3), s(1, 3, 2), s(10, 0, 2, 0),
                s(10, 0, 3, 3), s(16, 3, 2), s(22, 0, 1, 0));
        CHECK.due("run", thrown.run(0, 2), 1);
        CHECK.due("its FAULT", thrown.ran(2), 4);
    }

    private static void upToTheFirstOfItself() {
        CHECK.says("those before it are there");
        // ROWS of which the first cell became nothing, into THINGS that had a NAIL in each: one goes.
        NullKinds n = program(get(0, 9), get(1, 7), s(16, 3, 1), s(22, 1, 0, 0), s(1, 2, 2), s(10, 1, 2, 0), s(10, 1, 2, 3),
                s(16, 3, 2), s(22, 0, 1, 0, 9), s(16, 3, 1), s(9, 3, 1, 0), s(9, 4, 1, 3), s(23, 2));
        CHECK.due("run", n.run(0, 2), 0);
        CHECK.due("its FAULT", n.ran(1), 4);
        CHECK.due("the cell before it", n.variable(3, 0), 0);
        CHECK.due("the cell of the FAULT stays", n.variable(4, 0), 2);
    }
}
