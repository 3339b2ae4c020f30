/** Promises 10 to 13: what is told ahead. */
public final class AheadTest extends Programs {
    private static final Check CHECK = new Check("AheadTest");

    public static void main(String[] args) {
        wrongPlaces();
        faultsByCode();
        faultsOfTwo();
        faultsOfMoves();
        sides();
        casts();
        kept();
        namedTwice();
        handlers();
        alls();
        movesToAlls();
        never();
        CHECK.end();
    }

    private static int set(int... kinds) {
        return bits(kinds);
    }

    private static void may(NullKinds x, int step, int v, int... kinds) {
        CHECK.due("may(" + step + ", " + v + ")", x.may(step, v), set(kinds));
    }

    private static void faults(String what, NullKinds x, int step, int... faults) {
        CHECK.due(what + ": faults(" + step + ")", x.faults(step), set(faults));
    }

    private static void wrongPlaces() {
        NullKinds x = program(s(6, 0, 0, 0));
        for (int step : new int[] {-1, 1, 31, 32, Integer.MIN_VALUE, Integer.MAX_VALUE}) {
            CHECK.due("may(" + step + ", 0)", x.may(step, 0), -1);
            CHECK.due("faults(" + step + ")", x.faults(step), -1);
            CHECK.due("cast(" + step + ")", x.cast(step), -1);
        }
        for (int v : new int[] {-1, 6, Integer.MIN_VALUE, Integer.MAX_VALUE}) {
            CHECK.due("may(0, " + v + ")", x.may(0, v), -1);
        }
        for (int what : new int[] {-1, 3, Integer.MIN_VALUE, Integer.MAX_VALUE}) {
            CHECK.due("all(" + what + ")", x.all(what), -2);
        }
        for (int v = 0; v <= 5; v++) {
            may(x, 0, v, 0);
        }
    }

    /** Of the codes that look at one variable: the faults that each kind of it brings. */
    private static void faultsByCode() {
        int[][] all = choose(0, 0, 1, 3, 4, 5, 6, 8, 9);
        int at = all.length;
        int[][] last = {
            s(7, 2, 0), s(8, 0, 2), s(9, 2, 0), s(11, 2, 0), s(12, 2, 0), s(13, 2, 0),
            s(14, 2, 0), s(15, 0, 0, 0), s(0, 0), s(1, 2, 4), s(2, 2, 9), s(3, 2, 0),
            s(4, 0, 1, 0), s(5, 0, 0, 0), s(16, 0), s(17, 0, 0), s(18, 0, 1), s(19, 0, 1, 0),
            s(20, 0), s(21), s(23),
        };
        int[][] due = {
            {2}, {2}, {2, 3}, {2}, {2}, {2}, {2, 3}, {2, 3}, {}, {8}, {5, 8}, {}, {}, {}, {}, {}, {6}, {}, {}, {7}, {},
        };
        for (int i = 0; i < last.length; i++) {
            faults("code " + last[i][0] + " of something", behind(all, last[i]), at, due[i]);
            NullKinds none = program(last[i]);
            boolean looks = due[i].length > 0 && due[i][0] == 2;
            faults("code " + last[i][0] + " of nothing", none, 0, looks ? new int[] {1} : due[i]);
        }
        may(behind(all, last[0], s(21)), at + 1, 0, 1, 3, 4);
        may(behind(all, last[1], s(21)), at + 1, 0, 1, 3, 4);
        may(behind(all, last[2], s(21)), at + 1, 0, 8);
        may(behind(all, last[3], s(21)), at + 1, 0, 4);
        may(behind(all, last[4], s(21)), at + 1, 0, 4);
        may(behind(all, last[5], s(21)), at + 1, 0, 5, 6, 8, 9);
        may(behind(all, last[6], s(21)), at + 1, 0, 5);
        may(behind(all, last[7], s(21)), at + 1, 0, 5);
        may(behind(all, last[8], s(21)), at + 1, 0, 0);
        may(behind(all, last[9], s(21)), at + 1, 2, 4);
        may(behind(all, last[10], s(21)), at + 1, 2, 9);
        may(behind(all, last[11], s(21)), at + 1, 2, 1, 3, 4, 5, 6, 8, 9);
    }

    /** SET CELL: each fault needs that those ahead of it can be missed. */
    private static void faultsOfTwo() {
        int[] cell = s(10, 0, 1, 0);
        faults("a thing into a thing", two(k(1), k(1), cell), 6, 2);
        faults("INTS into nothing", two(k(0), k(5), cell), 6, 2);
        faults("a thing into nothing", two(k(0), k(1), cell), 6, 1);
        faults("nothing into THINGS", two(k(7), k(0), cell), 6, 3);
        faults("a NAIL into THINGS", two(k(7), k(2), cell), 6, 3);
        faults("a NAIL into BOLTS", two(k(8), k(2), cell), 6, 3, 4);
        faults("a SCREW into BOLTS", two(k(8), k(4), cell), 6, 3);
        faults("INTS into BOLTS", two(k(8), k(5), cell), 6, 2);
        faults("a NAIL into THINGS, BOLTS", two(k(7, 8), k(2), cell), 9, 3, 4);
        faults("nothing, a THING into nothing, ROWS", two(k(0, 9), k(0, 1), cell), 12, 1, 2);
        faults("BYTES into nothing, ROWS", two(k(0, 9), k(6), cell), 9, 2);
        // ROWS in V(a) with a NAIL do not make 4 come, nor does INTS for BOLTS.
        faults("a NAIL into ROWS, THINGS", two(k(9, 7), k(2), cell), 9, 2, 3);
        faults("INTS, a BOLT into BOLTS", two(k(8), k(5, 3), cell), 9, 2, 3);
    }

    private static void faultsOfMoves() {
        int[] move = s(22, 0, 1, 0);
        faults("nothing to a thing", two(k(0), k(1), move), 6, 1);
        faults("a thing to nothing", two(k(1), k(0), move), 6, 1);
        faults("a thing to INTS", two(k(1), k(5), move), 6, 4);
        faults("INTS to a thing", two(k(5), k(1), move), 6, 4);
        faults("INTS to INTS", two(k(5), k(5), move), 6, 3);
        faults("BYTES to BYTES", two(k(6), k(6), move), 6, 3);
        faults("INTS to BYTES", two(k(5), k(6), move), 6, 4);
        faults("THINGS to INTS", two(k(7), k(5), move), 6, 4);
        faults("ROWS to ROWS", two(k(9), k(9), move), 6, 3);
        faults("ROWS to THINGS", two(k(9), k(7), move), 6, 3, 4);
        faults("ROWS to BOLTS", two(k(9), k(8), move), 6, 3, 4);
        faults("THINGS of nothing to ROWS", two(k(7), k(9), move), 6, 3);
        faults("BOLTS of nothing to ROWS", two(k(8), k(9), move), 6, 3);
        faults("THINGS of nothing to BOLTS", two(k(7), k(8), move), 6, 3);
        faults("BOLTS to THINGS", two(k(8), k(7), move), 6, 3);
        faults("INTS, nothing to INTS, BYTES", two(k(5, 0), k(5, 6), move), 12, 1, 3, 4);
        // What the cells may have is of the whole program, also of what comes later.
        int[] bolt = s(1, 2, 3);
        int[] nail = s(1, 2, 2);
        int[] into = s(10, 0, 2, 0);
        faults("THINGS with a BOLT to BOLTS", two(k(7), k(8), move, bolt, into), 6, 3);
        faults("THINGS with a NAIL to BOLTS", two(k(7), k(8), move, nail, into), 6, 3, 4);
        faults("THINGS with a BOLT to ROWS", two(k(7), k(9), move, bolt, into), 6, 3, 4);
        faults("BOLTS with a BOLT to ROWS", two(k(8), k(9), move, bolt, into), 6, 3, 4);
        int[] screw = s(1, 2, 4);
        faults("THINGS with a SCREW to ROWS", two(k(7), k(9), move, screw, into), 6, 3, 4);
        faults("BOLTS with a SCREW to ROWS", two(k(8), k(9), move, screw, into), 6, 3, 4);
        faults("THINGS with a SCREW to BOLTS", two(k(7), k(8), move, screw, into), 6, 3);
        faults("BOLTS with a BOLT to THINGS", two(k(8), k(7), move, bolt, into), 6, 3);
        faults("THINGS with a NAIL to THINGS", two(k(7), k(7), move, nail, into), 6, 3);
    }

    private static void sides() {
        int[][] all = choose(0, 0, 0, 2, 4, 5);
        NullKinds type = behind(all, s(4, 0, 5, 14), s(21), s(21));
        may(type, 12, 0, 0, 2, 4, 5);
        may(type, 13, 0, 0, 5);
        may(type, 14, 0, 2, 4);
        NullKinds none = behind(all, s(5, 0, 0, 14), s(21), s(21));
        may(none, 13, 0, 2, 4, 5);
        may(none, 14, 0, 0);
        NullKinds same = behind(all, s(4, 0, 5, 13), s(21));
        may(same, 13, 0, 0, 2, 4, 5);
        NullKinds never = program(s(5, 0, 0, 2), s(21), s(4, 0, 0, 4), s(20, 5), s(21), s(23));
        may(never, 1, 0);
        may(never, 1, 3);
        may(never, 3, 0, 0);
        may(never, 4, 0);
        may(never, 5, 5, 0);
        NullKinds less = program(s(19, 0, 1, 2), s(1, 0, 1), s(20, 31), s(23));
        may(less, 1, 0, 0);
        may(less, 2, 0, 0, 1);
        may(less, 3, 0);
        NullKinds loop = program(s(8, 0, 0, 0, 1), s(1, 0, 1), s(7, 1, 0), s(20, 0));
        may(loop, 0, 0, 0, 1);
        may(loop, 0, 1, 0, 1);
    }

    private static void casts() {
        int[][] all = choose(0, 0, 0, 2, 4);
        CHECK.due("cast of nothing, NAIL, SCREW to 5", behind(all, s(6, 0, 5, 1)).cast(9), 0);
        CHECK.due("cast of nothing, NAIL, SCREW to 3", behind(all, s(6, 0, 3, 1)).cast(9), 1);
        CHECK.due("cast of nothing, NAIL, SCREW to 6", behind(all, s(6, 0, 6, 1)).cast(9), 1);
        int[][] some = choose(0, 0, 2, 4);
        CHECK.due("cast of NAIL, SCREW to 6", behind(some, s(6, 0, 6, 1)).cast(6), 2);
        faults("cast of NAIL, SCREW to 6", behind(some, s(6, 0, 6, 1)), 6, 2);
        faults("cast of NAIL, SCREW to 1", behind(some, s(6, 0, 1, 1)), 6);
        CHECK.due("cast of nothing to 10", program(s(6, 0, 10, 1)).cast(0), 0);
        CHECK.due("another code", program(s(7, 0, 1)).cast(0), -3);
        CHECK.due("never come to", program(s(23), s(6, 0, 0, 1)).cast(1), -3);
        NullKinds x = behind(all, s(6, 0, 3, 1), s(21));
        may(x, 10, 0, 0, 4);
        may(x, 10, 1, 0, 4);
        NullKinds itself = behind(all, s(6, 0, 2, 0), s(21));
        may(itself, 10, 0, 0, 2);
        NullKinds gone = behind(some, s(6, 0, 6, 1), s(21));
        may(gone, 7, 0);
        may(gone, 7, 4);
    }

    /** Of two variables each keeps the kinds with which the step goes on for some kind of the other. */
    private static void kept() {
        NullKinds x = two(k(0, 7, 8), k(1, 2, 5), s(10, 0, 1, 0), s(21));
        may(x, 19, 0, 7);
        may(x, 19, 1, 1, 2);
        NullKinds bolts = two(k(8, 9), k(0, 1, 4), s(10, 0, 1, 0), s(21));
        may(bolts, 16, 0, 8);
        may(bolts, 16, 1, 0, 4);
        NullKinds none = two(k(8), k(1, 2), s(10, 0, 1, 0), s(21));
        may(none, 10, 0);
        NullKinds next = two(k(0, 1, 7), k(0, 5), s(8, 0, 1), s(21));
        may(next, 16, 0, 1);
        may(next, 16, 1, 0, 5);
        NullKinds move = two(k(0, 1, 5, 7), k(5, 6), s(22, 0, 1, 0), s(21));
        may(move, 19, 0, 5);
        may(move, 19, 1, 5);
        NullKinds rows = two(k(6, 8, 9), k(2, 7, 5), s(22, 0, 1, 0), s(21));
        may(rows, 19, 0, 8, 9);
        may(rows, 19, 1, 7);
        may(rows, 19, 2, 0);
        NullKinds gone = two(k(5), k(6, 7), s(22, 0, 1, 0), s(21));
        may(gone, 10, 0);
    }

    private static void namedTwice() {
        NullKinds cell = behind(choose(0, 0, 0, 1, 7), s(10, 0, 0, 0), s(21));
        faults("V(0) into a cell of V(0)", cell, 9, 1, 2, 3);
        may(cell, 10, 0);
        may(cell, 10, 1);
        NullKinds next = behind(choose(0, 0, 0, 1, 7), s(8, 0, 0), s(21));
        may(next, 10, 0, 1);
        CHECK.due("ALL NEXTS", next.all(0), set(0, 1, 7));
        NullKinds got = behind(choose(0, 0, 0, 1, 7), s(7, 0, 0), s(21));
        may(got, 10, 0, 0);
        NullKinds stuck = behind(choose(0, 0, 0, 7), s(7, 0, 0), s(21));
        may(stuck, 7, 0);
        NullKinds from = behind(choose(0, 0, 0, 8), s(9, 0, 0, 0), s(21));
        may(from, 7, 0, 0);
        NullKinds move = behind(choose(0, 0, 0, 5, 7), s(22, 0, 0, 0), s(21));
        may(move, 10, 0, 5, 7);
        faults("each on its own", move, 9, 1, 3, 4);
        NullKinds set = behind(choose(0, 0, 1, 7), s(3, 0, 0), s(21));
        may(set, 7, 0, 1, 7);
        NullKinds self = program(s(19, 0, 0, 2), s(1, 0, 1), s(21));
        may(self, 2, 0, 0, 1);
    }

    private static void handlers() {
        NullKinds x = behind(choose(0, 0, 0, 1, 7), s(7, 1, 0, 0, 11), s(23), s(21));
        may(x, 10, 0, 1);
        may(x, 11, 0, 0, 1, 7);
        NullKinds safe = behind(choose(0, 0, 1, 2), s(7, 1, 0, 0, 8), s(23), s(21));
        may(safe, 7, 0, 1, 2);
        may(safe, 8, 0);
        NullKinds none = program(s(0, 0, 0, 0, 2), s(23), s(21));
        may(none, 2, 0);
        NullKinds make = program(s(1, 0, 4, 0, 2), s(23), s(21));
        may(make, 1, 0, 4);
        may(make, 2, 0, 0);
        NullKinds fail = program(s(21, 0, 0, 0, 2), s(21), s(18, 0, 0, 0, 4), s(20, 31), s(23));
        may(fail, 1, 0);
        may(fail, 2, 0, 0);
        may(fail, 4, 0, 0);
        NullKinds behind = program(s(21, 0, 0, 0, 32), s(21, 0, 0, 0, 31));
        may(behind, 1, 0);
        NullKinds itself = program(s(2, 0, 5, 0, 0), s(20, 0));
        may(itself, 0, 0, 0, 5);
    }

    private static void alls() {
        NullKinds next = two(k(1, 9), k(0, 3, 6), s(8, 0, 1), s(7, 2, 0), s(21));
        CHECK.due("ALL NEXTS", next.all(0), set(0, 3, 6));
        CHECK.due("ALL THINGS", next.all(1), set(0));
        CHECK.due("ALL BOLTS", next.all(2), set(0));
        may(next, 17, 2, 0, 3, 6);
        NullKinds no = two(k(7, 0), k(3, 6), s(8, 0, 1));
        CHECK.due("ALL NEXTS, of no thing", no.all(0), set(0));
        NullKinds both = two(k(7, 8), k(2, 4, 5), s(10, 0, 1, 0), s(9, 2, 0, 0), s(21));
        CHECK.due("ALL THINGS", both.all(1), set(0, 2, 4));
        CHECK.due("ALL BOLTS", both.all(2), set(0, 4));
        may(both, 17, 2, 0, 2, 4);
        NullKinds things = two(k(7, 9), k(3), s(10, 0, 1, 0), s(2, 3, 8), s(9, 4, 3, 0), s(9, 5, 0, 0), s(21));
        CHECK.due("ALL THINGS", things.all(1), set(0, 3));
        CHECK.due("ALL BOLTS", things.all(2), set(0));
        may(things, 13, 4, 0);
        may(things, 13, 5, 0, 3);
        // What is stored behind a step counts at it, too; what is never come to does not.
        NullKinds late = program(s(1, 0, 1), s(7, 1, 0), s(2, 2, 6), s(8, 0, 2), s(23), s(8, 0, 0));
        may(late, 2, 1, 0, 6);
        CHECK.due("ALL NEXTS", late.all(0), set(0, 6));
    }

    private static void movesToAlls() {
        int[] bolt = s(1, 2, 3);
        int[] nail = s(1, 3, 2);
        int[] boltIn = s(10, 0, 2, 0);
        int[] nailIn = s(10, 0, 3, 0);
        int[] move = s(22, 0, 1, 0);
        NullKinds down = two(k(7), k(8), move, bolt, nail, boltIn, nailIn);
        CHECK.due("ALL THINGS", down.all(1), set(0, 2, 3));
        CHECK.due("ALL BOLTS from THINGS", down.all(2), set(0, 3));
        NullKinds up = two(k(8), k(7), move, bolt, nail, boltIn, nailIn);
        CHECK.due("ALL THINGS from BOLTS", up.all(1), set(0, 3));
        CHECK.due("ALL BOLTS", up.all(2), set(0, 3));
        NullKinds back = two(k(8), k(7), s(22, 1, 0, 0), bolt, nail, boltIn, nailIn);
        CHECK.due("ALL THINGS, from which nothing comes", back.all(1), set(0));
        CHECK.due("ALL BOLTS", back.all(2), set(0, 3));
        NullKinds rows = two(k(7), k(9), move, bolt, boltIn);
        CHECK.due("ALL BOLTS, by ROWS", rows.all(2), set(0));
        NullKinds own = behind(choose(0, 0, 7, 8), s(22, 0, 0, 0), bolt, s(2, 1, 7), s(10, 1, 2, 0));
        CHECK.due("ALL BOLTS, each on its own", own.all(2), set(0, 3));
    }

    private static void never() {
        NullKinds x = program(s(20, 2), s(21, 0, 0, 0, 3), s(23), s(1, 0, 1));
        CHECK.due("may of a step never come to", x.may(1, 0), 0);
        CHECK.due("faults of it", x.faults(1), 0);
        CHECK.due("its handler is not come to either", x.may(3, 0), 0);
        CHECK.due("a step more", x.step(0, 0, 0, 0, -1), 4);
        CHECK.due("a jump that a step more makes good", program(s(20, 1)).may(0, 0), 1);
        NullKinds grown = program(s(20, 1));
        CHECK.due("faults now", grown.faults(0), 0);
        CHECK.due("a step more", grown.step(21, 0, 0, 0, -1), 1);
        CHECK.due("it is come to", grown.may(1, 0), 1);
        CHECK.due("its fault", grown.faults(1), set(7));
        CHECK.due("runs do not change it", grown.run(0, 0), 1);
        CHECK.due("it is as before", grown.faults(1), set(7));
    }
}
