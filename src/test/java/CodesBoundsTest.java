/** Boundary cases of the codes in a RUN: what they do, their FAULTS and the order of these. A method a code. */
public final class CodesBoundsTest extends Programs {
    private static final Check CHECK = new Check("CodesBoundsTest");
    private static final int LOWEST = Integer.MIN_VALUE;
    private static final int HIGHEST = Integer.MAX_VALUE;
    private static final int[] NOT_IN_20 = {LOWEST, -1, 20, 21, HIGHEST};

    public static void main(String[] args) {
        becomesNothing();
        make();
        arrayBelowZero();
        arrayTooLarge();
        becomesAnother();
        ifOfType();
        ifNothing();
        cast();
        getNext();
        setNext();
        getCell();
        setCell();
        setCellInOrder();
        tag();
        twice();
        length();
        getInt();
        setInt();
        number();
        add();
        divide();
        ifLess();
        jump();
        fail();
        end();
        CHECK.end();
    }

    /** The last step must have this FAULT, 0 for none. */
    private static NullKinds last(int fault, int x, int y, int[]... steps) {
        int[] step = steps[steps.length - 1];
        String what = "code " + step[0] + " of run(" + x + ", " + y + ")";
        NullKinds n = program(steps);
        CHECK.due(what, n.run(x, y), fault == 0 ? 0 : 1);
        CHECK.due(what + ": its FAULT", n.ran(2), fault);
        CHECK.due(what + ": its STEP", n.ran(3), fault == 0 ? -3 : steps.length - 1);
        return n;
    }

    private static void becomesNothing() {
        CHECK.says("0 V(a) becomes nothing.");
        for (int kind = 0; kind <= 9; kind++) {
            CHECK.due("V(5)", last(0, 0, 1, get(5, kind), s(0, 5)).variable(5, 0), 0);
        }
    }

    private static void make() {
        CHECK.says("1 MAKE V(a), of KIND b (1 to 4): 8, if 40 OBJECTS were made.");
        for (int kind = 1; kind <= 4; kind++) {
            CHECK.due("the 40th", last(0, 0, 0, join(makes(39), s(1, 0, kind))).variable(0, 0), kind);
            NullKinds more = last(8, 0, 0, join(makes(40), s(1, 0, kind)));
            CHECK.due("no 41st", more.variable(0, 0), 0);
            CHECK.due("OBJECTS made", more.ran(4), 40);
        }
        // What no VARIABLE has any more was made all the same.
        last(8, 0, 0, join(makes(40), s(0, 5), s(1, 5, 1)));
    }

    private static void arrayBelowZero() {
        CHECK.says("2 ARRAY V(a), of KIND b (5 to 9), LENGTH N(c): 5, if that is below 0");
        for (int kind = 5; kind <= 9; kind++) {
            for (int length : new int[] {-1, -2, -20, -21, LOWEST}) {
                CHECK.due("OBJECTS made", last(5, length, 0, s(2, 0, kind, 0)).ran(4), 0);
            }
            NullKinds none = last(0, 0, 0, s(2, 0, kind, 0));
            CHECK.due("its KIND", none.variable(0, 0), kind);
            CHECK.due("its LENGTH", none.variable(0, 2), 0);
        }
    }

    private static void arrayTooLarge() {
        CHECK.says("8 above 20");
        for (int kind = 5; kind <= 9; kind++) {
            CHECK.due("LENGTH", last(0, 20, 0, s(2, 0, kind, 0)).variable(0, 2), 20);
            for (int length : new int[] {21, 22, 40, HIGHEST}) {
                CHECK.due("OBJECTS made", last(8, length, 0, s(2, 0, kind, 0)).ran(4), 0);
            }
        }
        CHECK.says("or if 40 OBJECTS were made (5 ahead of it)");
        for (int kind = 5; kind <= 9; kind++) {
            CHECK.due("the 40th", last(0, 0, 20, join(makes(39), get(0, kind))).variable(0, 1), 39);
            CHECK.due("no 41st", last(8, 0, 0, join(makes(40), get(0, kind))).variable(0, 0), 0);
            last(8, 0, 20, join(makes(40), get(0, kind)));
            last(8, 0, 21, join(makes(40), get(0, kind)));
            last(5, 0, -1, join(makes(40), get(0, kind)));
            last(5, 0, LOWEST, join(makes(40), get(0, kind)));
        }
    }

    private static void becomesAnother() {
        CHECK.says("3 V(a) becomes V(b).");
        for (int kind = 0; kind <= 9; kind++) {
            NullKinds n = last(0, 0, 1, s(1, 5, 1), get(0, kind), s(3, 5, 0));
            CHECK.due("V(a)", n.variable(5, 0), kind);
            CHECK.due("V(b)", n.variable(0, 0), kind);
            CHECK.due("the OBJECT of both", n.variable(5, 1), n.variable(0, 1));
            CHECK.due("V(0) of itself", last(0, 0, 1, get(0, kind), s(3, 0, 0)).variable(0, 0), kind);
        }
    }

    private static void ifOfType() {
        CHECK.says("4 if V(a) is of TYPE b: to STEP c.");
        // To itself without an end; to the next one; to none.
        CHECK.due("to itself", program(s(1, 0, 4), s(4, 0, 5, 1)).run(0, 0), 2);
        CHECK.due("to the next", last(0, 0, 0, s(1, 0, 4), s(4, 0, 5, 2), s(16, 0, 3)).number(0), 3);
        CHECK.due("to none", last(0, 9, 0, s(1, 0, 4), s(4, 0, 5, 32), s(16, 0, 3)).number(0), 9);
        CHECK.due("not of it", last(0, 9, 0, s(1, 0, 3), s(4, 0, 5, 32), s(16, 0, 3)).number(0), 3);
        CHECK.due("V(a) stays", last(0, 0, 0, s(1, 0, 3), s(4, 0, 5, 32)).variable(0, 0), 3);
    }

    private static void ifNothing() {
        CHECK.says("5 if V(a) is nothing: to STEP c.");
        CHECK.due("to itself", program(s(5, 0, 0, 0)).run(0, 0), 2);
        CHECK.due("to the next", last(0, 0, 0, s(5, 0, 0, 1), s(16, 0, 3)).number(0), 3);
        for (int kind = 0; kind <= 9; kind++) {
            NullKinds n = last(0, 9, 0, get(0, kind), s(5, 0, 0, 32), s(16, 0, 3));
            CHECK.due("kind " + kind, n.number(0), kind == 0 ? 9 : 3);
        }
    }

    private static void cast() {
        CHECK.says("6 V(c) becomes V(a), CAST to TYPE b: 2, if it is something that is not of it.");
        CHECK.due("a BOLT is no SCREW", last(2, 0, 0, s(1, 0, 3), s(6, 0, 4, 1)).variable(1, 0), 0);
        CHECK.due("a SCREW is a BOLT", last(0, 0, 0, s(1, 0, 4), s(6, 0, 3, 1)).variable(1, 0), 4);
        CHECK.due("THINGS are no BOLTS", last(2, 0, 0, s(2, 0, 7), s(6, 0, 9, 0)).variable(0, 0), 7);
        CHECK.due("BOLTS are arrays of things", last(0, 0, 0, s(2, 0, 8), s(6, 0, 8, 1)).variable(1, 1), 0);
        CHECK.due("ROWS are no INTS", last(2, 0, 0, s(2, 0, 9), s(6, 0, 6, 0)).variable(0, 0), 9);
        CHECK.due("nothing is put over something", last(0, 0, 0, s(1, 1, 1), s(6, 0, 4, 1)).variable(1, 0), 0);
        CHECK.due("V(a) stays", last(0, 0, 0, s(1, 0, 4), s(6, 0, 3, 1)).variable(0, 0), 4);
    }

    private static void getNext() {
        CHECK.says("7 V(a) becomes NEXT of V(b), CAST to 1: 2; 1.");
        for (int kind = 0; kind <= 9; kind++) {
            int fault = kind == 0 ? 1 : kind > 4 ? 2 : 0;
            NullKinds n = last(fault, 0, 1, s(1, 1, 1), get(0, kind), s(7, 1, 0));
            CHECK.due("V(a)", n.variable(1, 0), fault == 0 ? 0 : 1);
            NullKinds chain = last(0, 0, 1, s(1, 0, 1), get(1, kind), s(8, 0, 1), s(7, 0, 0));
            CHECK.due("NEXT, put where its thing was", chain.variable(0, 0), kind);
        }
    }

    private static void setNext() {
        CHECK.says("8 NEXT of V(a), CAST to 1, becomes V(b): 2; 1.");
        for (int kind = 0; kind <= 9; kind++) {
            last(kind == 0 ? 1 : kind > 4 ? 2 : 0, 0, 1, get(0, kind), s(1, 1, 1), s(8, 0, 1));
            NullKinds n = last(0, 0, 1, s(1, 0, 4), s(8, 0, 0), get(1, kind), s(8, 0, 1));
            CHECK.due("NEXT", n.variable(0, 3), kind);
        }
        CHECK.due("of itself", last(0, 0, 0, s(1, 0, 4), s(8, 0, 0)).variable(0, 3), 4);
    }

    private static void getCell() {
        CHECK.says("9 V(a) becomes cell N(c) of V(b), CAST to 8: 2; 1; 3.");
        for (int kind = 0; kind <= 9; kind++) {
            boolean good = kind == 7 || kind == 8;
            last(good ? 0 : kind == 0 ? 1 : 2, 0, 20, get(0, kind), s(9, 1, 0, 0));
            last(good ? 3 : kind == 0 ? 1 : 2, -1, 20, get(0, kind), s(9, 1, 0, 0));
        }
        for (int kind = 7; kind <= 8; kind++) {
            CHECK.due("V(1)", last(0, 19, 20, s(1, 1, 3), get(0, kind), s(9, 1, 0, 0)).variable(1, 0), 0);
            for (int cell : NOT_IN_20) {
                CHECK.due("V(1)", last(3, cell, 20, s(1, 1, 3), get(0, kind), s(9, 1, 0, 0)).variable(1, 0), 3);
            }
            last(3, 0, 0, get(0, kind), s(9, 1, 0, 0));
            CHECK.due("over its array", last(0, 0, 1, get(0, kind), s(9, 0, 0, 0)).variable(0, 0), 0);
        }
    }

    private static void setCell() {
        CHECK.says("10 cell N(c) of V(a), CAST to 8, becomes V(b), CAST to 1");
        for (int kind = 7; kind <= 8; kind++) {
            for (int cell : new int[] {0, 19}) {
                int[][] steps = {get(0, kind), s(1, 1, 4), s(10, 0, 1, 0), s(9, 2, 0, 0)};
                CHECK.due("the cell", last(0, cell, 20, steps).variable(2, 1), 1);
                int[][] emptied = join(steps, s(10, 0, 5, 0), s(9, 2, 0, 0));
                CHECK.due("the cell, nothing again", last(0, cell, 20, emptied).variable(2, 0), 0);
            }
            for (int cell : NOT_IN_20) {
                last(3, cell, 20, get(0, kind), s(1, 1, 4), s(10, 0, 1, 0));
            }
            last(3, 0, 0, get(0, kind), s(10, 0, 1, 0));
        }
        CHECK.says("4 if that is no KIND for it");
        for (int kind = 0; kind <= 4; kind++) {
            last(0, 0, 1, get(0, 7), get(1, kind), s(10, 0, 1, 0));
            last(kind == 1 || kind == 2 ? 4 : 0, 0, 1, get(0, 8), get(1, kind), s(10, 0, 1, 0));
        }
    }

    private static void setCellInOrder() {
        CHECK.says("2 (of a, of b); 1; 3; 4");
        for (int array = 0; array <= 9; array++) {
            for (int kind = 0; kind <= 9; kind++) {
                boolean casts = (array == 0 || array == 7 || array == 8) && kind <= 4;
                int early = !casts ? 2 : array == 0 ? 1 : 0;
                boolean store = array == 8 && (kind == 1 || kind == 2);
                last(early != 0 ? early : 3, 1, 1, get(0, array), get(1, kind), s(10, 0, 1, 0));
                last(early != 0 ? early : 3, -1, 1, get(0, array), get(1, kind), s(10, 0, 1, 0));
                last(early != 0 ? early : store ? 4 : 0, 0, 1, get(0, array), get(1, kind), s(10, 0, 1, 0));
            }
        }
    }

    private static void tag() {
        CHECK.says("11 N(a) becomes the TAG of V(b), CAST to 5: 2; 1.");
        for (int kind = 0; kind <= 9; kind++) {
            int fault = kind == 0 ? 1 : kind == 2 || kind == 4 ? 0 : 2;
            NullKinds n = last(fault, 7, 1, get(0, kind), s(11, 0, 0));
            CHECK.due("N(0) of kind " + kind, n.number(0), fault != 0 ? 7 : kind == 2 ? 100 : 200);
        }
    }

    private static void twice() {
        CHECK.says("12 likewise TWICE.");
        for (int kind = 0; kind <= 9; kind++) {
            int fault = kind == 0 ? 1 : kind == 2 || kind == 4 ? 0 : 2;
            NullKinds n = last(fault, 7, 1, get(0, kind), s(12, 0, 0));
            CHECK.due("N(0) of kind " + kind, n.number(0), fault != 0 ? 7 : kind == 2 ? 200 : 401);
        }
    }

    private static void length() {
        CHECK.says("13 N(a) becomes the LENGTH of V(b): 1; 2, if it is no array.");
        for (int kind = 0; kind <= 9; kind++) {
            int fault = kind == 0 ? 1 : kind < 5 ? 2 : 0;
            for (int length : new int[] {0, 20}) {
                NullKinds n = last(fault, 7, length, get(0, kind), s(13, 0, 0));
                CHECK.due("N(0) of kind " + kind, n.number(0), fault != 0 ? 7 : length);
            }
        }
    }

    private static void getInt() {
        CHECK.says("14 N(a) becomes cell N(c) of V(b), CAST to 6: 2; 1; 3.");
        for (int kind = 0; kind <= 9; kind++) {
            int early = kind == 0 ? 1 : kind == 5 ? 0 : 2;
            last(early, 0, 20, get(0, kind), s(14, 3, 0, 0));
            last(early != 0 ? early : 3, -1, 20, get(0, kind), s(14, 3, 0, 0));
        }
        for (int cell : NOT_IN_20) {
            CHECK.due("N(3)", last(3, cell, 20, get(0, 5), s(16, 3, 7), s(14, 3, 0, 0)).number(3), 7);
        }
        CHECK.due("N(3)", last(0, 19, 20, get(0, 5), s(16, 3, 7), s(14, 3, 0, 0)).number(3), 0);
        CHECK.due("over its index", last(0, 19, 20, get(0, 5), s(14, 0, 0, 0)).number(0), 0);
        last(3, 0, 0, get(0, 5), s(14, 3, 0, 0));
    }

    private static void setInt() {
        CHECK.says("15 cell N(b) of V(a), CAST to 6, becomes N(c): 2; 1; 3.");
        for (int kind = 0; kind <= 9; kind++) {
            int early = kind == 0 ? 1 : kind == 5 ? 0 : 2;
            last(early, 0, 20, get(0, kind), s(15, 0, 0, 1));
            last(early != 0 ? early : 3, -1, 20, get(0, kind), s(15, 0, 0, 1));
        }
        for (int cell : NOT_IN_20) {
            last(3, cell, 20, get(0, 5), s(15, 0, 0, 1));
        }
        last(3, 0, 0, get(0, 5), s(15, 0, 0, 1));
        for (int value : new int[] {LOWEST, -1, 1, 200, HIGHEST}) {
            NullKinds n = last(0, 19, 20, get(0, 5), s(16, 2, value), s(15, 0, 0, 2), s(14, 3, 0, 0));
            CHECK.due("the cell", n.number(3), value);
        }
        CHECK.due("cell 19 has 19", last(0, 19, 20, get(0, 5), s(15, 0, 0, 0), s(14, 3, 0, 0)).number(3), 19);
    }

    private static void number() {
        CHECK.says("16 N(a) becomes b.");
        for (int b : new int[] {LOWEST, -1, 0, 1, 33, HIGHEST}) {
            for (int k = 0; k <= 3; k++) {
                CHECK.due("N(" + k + ")", last(0, 5, 6, s(16, k, b)).number(k), b);
            }
        }
    }

    private static void add() {
        CHECK.says("17 N(a) becomes N(a) + N(b).");
        CHECK.due("wraps up", last(0, HIGHEST, 1, s(17, 0, 1)).number(0), LOWEST);
        CHECK.due("wraps down", last(0, LOWEST, LOWEST, s(17, 0, 1)).number(0), 0);
        CHECK.due("both at the highest", last(0, HIGHEST, HIGHEST, s(17, 0, 1)).number(0), -2);
        CHECK.due("to itself", last(0, HIGHEST, 0, s(17, 0, 0)).number(0), -2);
        CHECK.due("N(b) stays", last(0, 3, 4, s(17, 0, 1)).number(1), 4);
    }

    private static void divide() {
        CHECK.says("18 N(a) becomes N(a) / N(b), cut: 6.");
        int[][] cut = {{7, 2, 3}, {-7, 2, -3}, {7, -2, -3}, {-7, -2, 3}, {1, 2, 0}, {-1, 2, 0}, {0, -5, 0}};
        for (int[] c : cut) {
            CHECK.due(c[0] + " / " + c[1], last(0, c[0], c[1], s(18, 0, 1)).number(0), c[2]);
        }
        CHECK.due("the lowest by -1 wraps", last(0, LOWEST, -1, s(18, 0, 1)).number(0), LOWEST);
        CHECK.due("the lowest by itself", last(0, LOWEST, 0, s(18, 0, 0)).number(0), 1);
        CHECK.due("by 0", last(6, 5, 0, s(18, 0, 1)).number(0), 5);
        last(6, 0, 0, s(18, 0, 1));
        last(6, LOWEST, 0, s(18, 0, 1));
        last(6, 0, 9, s(18, 0, 0));
    }

    private static void ifLess() {
        CHECK.says("19 if N(a) is less than N(b): to STEP c.");
        int[][] pairs = {{0, 1, 1}, {1, 1, 0}, {2, 1, 0}, {LOWEST, HIGHEST, 1}, {HIGHEST, LOWEST, 0}, {-1, 0, 1}, {LOWEST, LOWEST, 0}};
        for (int[] p : pairs) {
            NullKinds n = last(0, p[0], p[1], s(19, 0, 1, 32), s(16, 3, 7));
            CHECK.due(p[0] + " less than " + p[1], n.number(3), p[2] == 1 ? 0 : 7);
        }
        CHECK.due("than itself", last(0, 4, 0, s(19, 0, 0, 32), s(16, 3, 7)).number(3), 7);
        CHECK.due("to itself", program(s(19, 0, 1, 0)).run(0, 1), 2);
    }

    private static void jump() {
        CHECK.says("20 to STEP a.");
        CHECK.due("to itself", program(s(20, 0)).run(0, 0), 2);
        CHECK.due("to the next", last(0, 0, 0, s(20, 1), s(16, 3, 7)).number(3), 7);
        CHECK.due("over one", last(0, 0, 0, s(20, 2), s(16, 3, 7), s(16, 2, 5)).number(3), 0);
        CHECK.due("back", last(0, 0, 0, s(20, 3), s(16, 3, 7), s(20, 32), s(20, 1)).number(3), 7);
    }

    private static void fail() {
        CHECK.says("21 7.");
        CHECK.due("N(2) stays", last(7, 0, 0, s(21)).number(2), 0);
        CHECK.due("had", last(7, 0, 0, s(16, 0, 1), s(21)).had(1), bits(7));
    }

    private static void end() {
        CHECK.says("23 END, with N(a).");
        for (int value : new int[] {LOWEST, -1, 0, 1, HIGHEST}) {
            NullKinds n = program(s(23, 1), s(21));
            CHECK.due("run", n.run(5, value), 0);
            CHECK.due("ENDED with", n.ran(1), value);
            CHECK.due("STEPS done", n.ran(0), 1);
        }
        CHECK.due("with N(3)", last(0, 0, 0, s(16, 3, 8), s(23, 3)).ran(1), 8);
    }
}
