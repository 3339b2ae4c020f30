import java.util.Arrays;

/**
 * Small programs over variables that may hold nothing, things of four kinds and arrays of five:
 * they are run, with their faults, and what may come is told ahead for each of their steps.
 */
public final class NullKinds {
    public static final long NOTHING = Long.MIN_VALUE;

    private static final int NO_SUCH = -1;
    private static final int OUT_OF_BOUNDS = -2;
    private static final int NOT_SO = -3;
    private static final int NO_ROOM = -4;

    private static final int VARIABLES = 6;
    private static final int NUMBERS = 4;
    private static final int STEPS = 32;
    private static final int OBJECTS = 40;
    private static final int LONGEST = 20;
    private static final int STEPS_IN_RUN = 200;
    private static final int FAULTS_IN_RUN = 8;

    // The number that a handler finds its fault in, and the one that tells MOVE how many cells.
    private static final int FAULT_NUMBER = 2;
    private static final int COUNT_NUMBER = 3;

    private static final int NO_KIND = 0;
    private static final int THING = 1;
    private static final int NAIL = 2;
    private static final int SCREW = 4;
    private static final int INTS = 5;
    private static final int BYTES = 6;
    private static final int THINGS = 7;
    private static final int BOLTS = 8;
    private static final int ROWS = 9;
    private static final int KINDS = 10;

    // Sets of kinds hold kind k as bit 1 << k.
    private static final int ONLY_NOTHING = 1;
    private static final int ANY_THING = 0x01E;
    private static final int ANY_ARRAY = 0x3E0;
    private static final int ONLY_THINGS = 0x080;
    private static final int ONLY_BOLTS = 0x100;

    private static final int TYPE_THING = 1;
    private static final int TYPE_FACE = 5;
    private static final int TYPE_INTS = 6;
    private static final int TYPE_ARRAY_OF_THINGS = 8;
    private static final int TYPES = 11;
    /** The kinds that are of each type. */
    private static final int[] KINDS_OF_TYPE =
            {0x3FE, 0x01E, 0x004, 0x018, 0x010, 0x014, 0x020, 0x040, 0x180, 0x100, 0x200};
    /** The kinds that a cell of an array of each kind can have, where its cells are no numbers. */
    private static final int[] KINDS_FOR_CELL = {0, 0, 0, 0, 0, 0, 0, 0x01F, 0x019, 0x021};
    /** The kinds of arrays that MOVE can bring cells to, from an array of each kind. */
    private static final int[] KINDS_TO_MOVE_TO = {0, 0, 0, 0, 0, 0x020, 0x040, 0x380, 0x380, 0x380};

    private static final int NO_FAULT = 0;
    private static final int FAULT_NOTHING = 1;
    private static final int FAULT_CAST = 2;
    private static final int FAULT_INDEX = 3;
    private static final int FAULT_STORE = 4;
    private static final int FAULT_BELOW = 5;
    private static final int FAULT_BY_ZERO = 6;
    private static final int FAULT_FAIL = 7;
    private static final int FAULT_LARGE = 8;

    private static final int DROP = 0;
    private static final int MAKE = 1;
    private static final int ARRAY = 2;
    private static final int SET = 3;
    private static final int IF_OF_TYPE = 4;
    private static final int IF_NOTHING = 5;
    private static final int CAST = 6;
    private static final int GET_NEXT = 7;
    private static final int SET_NEXT = 8;
    private static final int GET_CELL = 9;
    private static final int SET_CELL = 10;
    private static final int TAG = 11;
    private static final int TWICE = 12;
    private static final int LENGTH = 13;
    private static final int GET_INT = 14;
    private static final int SET_INT = 15;
    private static final int NUMBER = 16;
    private static final int ADD = 17;
    private static final int DIVIDE = 18;
    private static final int IF_LESS = 19;
    private static final int JUMP = 20;
    private static final int FAIL = 21;
    private static final int MOVE = 22;
    private static final int END = 23;
    private static final int CODES = 24;

    // How a run goes: the first three are what it answers.
    private static final int ENDED = 0;
    private static final int THROWN = 1;
    private static final int SPENT = 2;
    private static final int GOING = 3;
    private static final int NEVER_RUN = 4;

    private final Program program;
    private final Watch watch;
    private final Machine machine;
    private final Outlook outlook;

    public NullKinds() {
        program = new Program();
        watch = new Watch();
        machine = new Machine(program, watch);
        outlook = new Outlook(program);
    }

    public int step(int code, int a, int b, int c, int handler) {
        if (!Program.isInBounds(code, a, b, c, handler)) {
            return OUT_OF_BOUNDS;
        }
        if (program.size() >= STEPS) {
            return NO_ROOM;
        }
        watch.forget();
        outlook.forget();
        return program.add(code, a, b, c, handler);
    }

    public int clear() {
        int before = program.size();
        program.empty();
        watch.forget();
        machine.forget();
        outlook.forget();
        return before;
    }

    // ---- runs

    public int run(int x, int y) {
        return machine.go(x, y);
    }

    public long ran(int what) {
        return machine.hasRun() ? machine.report(what) : NOTHING;
    }

    public int variable(int v, int what) {
        if (!isVariable(v)) {
            return NO_SUCH;
        }
        if (what < 0 || what > 3) {
            return OUT_OF_BOUNDS;
        }
        return machine.hasRun() ? machine.look(v, what) : NOT_SO;
    }

    public long number(int k) {
        return isNumber(k) && machine.hasRun() ? machine.numberAt(k) : NOTHING;
    }

    public int seen(int step, int v) {
        return program.has(step) && isVariable(v) ? watch.kindsAt(step, v) : NO_SUCH;
    }

    public int had(int step) {
        return program.has(step) ? watch.faultsAt(step) : NO_SUCH;
    }

    // ---- told ahead

    public int may(int step, int v) {
        outlook.settle();
        return program.has(step) && isVariable(v) ? outlook.kindsAt(step, v) : NO_SUCH;
    }

    public int faults(int step) {
        outlook.settle();
        return program.has(step) ? outlook.faultsAt(step) : NO_SUCH;
    }

    public int cast(int step) {
        outlook.settle();
        return program.has(step) ? outlook.castAt(step) : NO_SUCH;
    }

    public int all(int what) {
        outlook.settle();
        return what < 0 || what > 2 ? OUT_OF_BOUNDS : outlook.allOf(what);
    }

    public int mean() throws ArithmeticException {
        int runs = watch.runs();
        if (runs == 0) {
            throw new ArithmeticException("no run behind the latest step");
        }
        return watch.stepsDone() / runs;
    }

    private static boolean isVariable(int v) {
        return v >= 0 && v < VARIABLES;
    }

    private static boolean isNumber(int k) {
        return k >= 0 && k < NUMBERS;
    }

    private static int only(int kind) {
        return 1 << kind;
    }

    private static boolean holds(int set, int kind) {
        return (set >> kind & 1) != 0;
    }

    private static boolean share(int set, int other) {
        return (set & other) != 0;
    }

    private static int faultIf(boolean can, int fault) {
        return can ? 1 << fault : 0;
    }

    /** The steps, checked before they come in: whatever reads them may use a, b, c as they are. */
    private static final class Program {
        // A column a code: what it names as a, b, c. V variable, N number, K kind of a thing,
        // A kind of an array, T type, S step; what is '-' is not looked at.
        private static final String NAMES_A = "VVVVVVVVVVVNNNNVNNNNS-VN";
        private static final String NAMES_B = "-KAVT-TVVVVVVVVN-NNN--V-";
        private static final String NAMES_C = "--N-SSV--NN---NN---S--N-";

        private final int[] codes = new int[STEPS];
        private final int[] as = new int[STEPS];
        private final int[] bs = new int[STEPS];
        private final int[] cs = new int[STEPS];
        private final int[] handlers = new int[STEPS];
        private int count = 0;

        static boolean isInBounds(int code, int a, int b, int c, int handler) {
            return code >= 0 && code < CODES
                    && fits(NAMES_A.charAt(code), a)
                    && fits(NAMES_B.charAt(code), b)
                    && fits(NAMES_C.charAt(code), c)
                    && handler >= -1 && handler <= STEPS;
        }

        private static boolean fits(int name, int value) {
            switch (name) {
                case 'V':
                    return isVariable(value);
                case 'N':
                    return isNumber(value);
                case 'K':
                    return value >= THING && value <= SCREW;
                case 'A':
                    return value >= INTS && value <= ROWS;
                case 'T':
                    return value >= 0 && value < TYPES;
                case 'S':
                    return value >= 0 && value <= STEPS;
                default:
                    return true;
            }
        }

        int add(int code, int a, int b, int c, int handler) {
            int step = count;
            codes[step] = code;
            as[step] = a;
            bs[step] = b;
            cs[step] = c;
            handlers[step] = handler;
            count++;
            return step;
        }

        void empty() {
            count = 0;
        }

        int size() {
            return count;
        }

        boolean has(int step) {
            return step >= 0 && step < count;
        }
    }

    /** What was seen in the runs behind the latest step(). */
    private static final class Watch {
        private final int[] kinds = new int[STEPS * VARIABLES];
        private final int[] faults = new int[STEPS];
        private int steps = 0;
        private int runs = 0;

        void forget() {
            Arrays.fill(kinds, 0);
            Arrays.fill(faults, 0);
            steps = 0;
            runs = 0;
        }

        void noteRun() {
            runs++;
        }

        void noteStep() {
            steps++;
        }

        void noteKind(int step, int v, int kind) {
            kinds[step * VARIABLES + v] |= only(kind);
        }

        void noteFault(int step, int fault) {
            faults[step] |= 1 << fault;
        }

        int kindsAt(int step, int v) {
            return kinds[step * VARIABLES + v];
        }

        int faultsAt(int step) {
            return faults[step];
        }

        int stepsDone() {
            return steps;
        }

        int runs() {
            return runs;
        }
    }

    /** The objects of one run. A reference is an object's number, NONE, or ROW. */
    private static final class Heap {
        static final int NONE = -1;
        // The INTS that a cell of ROWS has: no step can get at it, so which one it is never shows.
        private static final int ROW = -2;

        private final int[] kinds = new int[OBJECTS];
        private final int[] lengths = new int[OBJECTS];
        private final int[] nexts = new int[OBJECTS];
        private final int[] cells = new int[OBJECTS * LONGEST];
        private final int[] moving = new int[LONGEST];
        private int made = 0;

        void empty() {
            made = 0;
        }

        int size() {
            return made;
        }

        boolean isFull() {
            return made >= OBJECTS;
        }

        int make(int kind, int length) {
            int object = made;
            kinds[object] = kind;
            lengths[object] = length;
            nexts[object] = NONE;
            made++;
            int first = firstCell(kind);
            for (int i = 0; i < length; i++) {
                setCell(object, i, first);
            }
            return object;
        }

        private static int firstCell(int kind) {
            if (kind == ROWS) {
                return ROW;
            }
            return kind == THINGS || kind == BOLTS ? NONE : 0;
        }

        int kindOf(int reference) {
            if (reference >= 0 && reference < made) {
                return kinds[reference];
            }
            return reference == ROW ? INTS : NO_KIND;
        }

        int lengthOf(int array) {
            return lengths[array];
        }

        int nextOf(int thing) {
            return nexts[thing];
        }

        void setNext(int thing, int reference) {
            nexts[thing] = reference;
        }

        int cell(int array, int index) {
            return cells[array * LONGEST + index];
        }

        void setCell(int array, int index, int value) {
            cells[array * LONGEST + index] = value;
        }

        boolean takes(int array, int reference) {
            return holds(KINDS_FOR_CELL[kinds[array]], kindOf(reference));
        }

        /** Goes by way of others, since both may be the same array. */
        int move(int from, int to, int start, int count) {
            for (int i = 0; i < count; i++) {
                moving[i] = cell(from, i);
            }
            boolean numbers = kinds[to] == INTS || kinds[to] == BYTES;
            for (int i = 0; i < count; i++) {
                if (!numbers && !takes(to, moving[i])) {
                    return FAULT_STORE;
                }
                setCell(to, start + i, moving[i]);
            }
            return NO_FAULT;
        }
    }

    /** Runs the program, and keeps how the latest run left everything. */
    private static final class Machine {
        private final Program program;
        private final Watch watch;
        private final Heap heap = new Heap();
        private final int[] variables = new int[VARIABLES];
        private final int[] numbers = new int[NUMBERS];
        private int at = 0;
        private int done = 0;
        private int faulted = 0;
        private int state = NEVER_RUN;
        private int endedWith = 0;
        private int thrownFault = NO_FAULT;
        private int thrownStep = NOT_SO;

        Machine(Program program, Watch watch) {
            this.program = program;
            this.watch = watch;
        }

        void forget() {
            state = NEVER_RUN;
        }

        boolean hasRun() {
            return state != NEVER_RUN;
        }

        int go(int x, int y) {
            begin(x, y);
            for (int turn = 0; turn <= STEPS_IN_RUN && state == GOING; turn++) {
                if (!program.has(at)) {
                    state = ENDED;
                } else if (turn == STEPS_IN_RUN) {
                    state = SPENT;
                } else {
                    takeStep(at);
                }
            }
            return state;
        }

        private void begin(int x, int y) {
            heap.empty();
            Arrays.fill(variables, Heap.NONE);
            Arrays.fill(numbers, 0);
            numbers[0] = x;
            numbers[1] = y;
            at = 0;
            done = 0;
            faulted = 0;
            state = GOING;
            endedWith = 0;
            thrownFault = NO_FAULT;
            thrownStep = NOT_SO;
            watch.noteRun();
        }

        private void takeStep(int step) {
            for (int v = 0; v < VARIABLES; v++) {
                watch.noteKind(step, v, heap.kindOf(variables[v]));
            }
            watch.noteStep();
            done++;
            at = step + 1;
            int fault = perform(program.codes[step], program.as[step], program.bs[step], program.cs[step]);
            if (fault != NO_FAULT) {
                meetFault(step, fault);
            }
        }

        private void meetFault(int step, int fault) {
            watch.noteFault(step, fault);
            faulted++;
            int handler = program.handlers[step];
            if (faulted > FAULTS_IN_RUN) {
                state = SPENT;
            } else if (handler < 0) {
                state = THROWN;
                thrownFault = fault;
                thrownStep = step;
            } else {
                numbers[FAULT_NUMBER] = fault;
                at = handler;
            }
        }

        private int perform(int code, int a, int b, int c) {
            switch (code) {
                case MAKE:
                    return makeThing(a, b);
                case ARRAY:
                    return makeArray(a, b, numbers[c]);
                case CAST:
                    return castInto(c, variables[a], b);
                case GET_NEXT:
                    return getNext(a, variables[b]);
                case SET_NEXT:
                    return setNext(variables[a], variables[b]);
                case GET_CELL:
                    return getCell(a, variables[b], numbers[c]);
                case SET_CELL:
                    return setCell(variables[a], numbers[c], variables[b]);
                case TAG:
                case TWICE:
                    return askFace(a, variables[b], code == TWICE);
                case LENGTH:
                    return getLength(a, variables[b]);
                case GET_INT:
                    return getInt(a, variables[b], numbers[c]);
                case SET_INT:
                    return setInt(variables[a], numbers[b], numbers[c]);
                case DIVIDE:
                    return divide(a, numbers[b]);
                case FAIL:
                    return FAULT_FAIL;
                case MOVE:
                    return move(variables[a], variables[b], numbers[c], numbers[COUNT_NUMBER]);
                default:
                    performSafely(code, a, b, c);
                    return NO_FAULT;
            }
        }

        /** The codes that have no faults. */
        private void performSafely(int code, int a, int b, int c) {
            switch (code) {
                case DROP:
                    variables[a] = Heap.NONE;
                    break;
                case SET:
                    variables[a] = variables[b];
                    break;
                case IF_OF_TYPE:
                    jumpIf(holds(KINDS_OF_TYPE[b], heap.kindOf(variables[a])), c);
                    break;
                case IF_NOTHING:
                    jumpIf(variables[a] == Heap.NONE, c);
                    break;
                case NUMBER:
                    numbers[a] = b;
                    break;
                case ADD:
                    numbers[a] += numbers[b];
                    break;
                case IF_LESS:
                    jumpIf(numbers[a] < numbers[b], c);
                    break;
                case JUMP:
                    at = a;
                    break;
                case END:
                    state = ENDED;
                    endedWith = numbers[a];
                    break;
                default:
                    break;
            }
        }

        private void jumpIf(boolean so, int step) {
            if (so) {
                at = step;
            }
        }

        private int makeThing(int v, int kind) {
            if (heap.isFull()) {
                return FAULT_LARGE;
            }
            variables[v] = heap.make(kind, 0);
            return NO_FAULT;
        }

        private int makeArray(int v, int kind, int length) {
            if (length < 0) {
                return FAULT_BELOW;
            }
            if (length > LONGEST || heap.isFull()) {
                return FAULT_LARGE;
            }
            variables[v] = heap.make(kind, length);
            return NO_FAULT;
        }

        private int castInto(int v, int reference, int type) {
            int fault = castFault(reference, type);
            if (fault == NO_FAULT) {
                variables[v] = reference;
            }
            return fault;
        }

        private int getNext(int v, int thing) {
            int fault = useFault(thing, TYPE_THING);
            if (fault == NO_FAULT) {
                variables[v] = heap.nextOf(thing);
            }
            return fault;
        }

        private int setNext(int thing, int reference) {
            int fault = useFault(thing, TYPE_THING);
            if (fault == NO_FAULT) {
                heap.setNext(thing, reference);
            }
            return fault;
        }

        private int getCell(int v, int array, int index) {
            int fault = cellFault(array, TYPE_ARRAY_OF_THINGS, index);
            if (fault == NO_FAULT) {
                variables[v] = heap.cell(array, index);
            }
            return fault;
        }

        private int setCell(int array, int index, int reference) {
            int fault = castFault(array, TYPE_ARRAY_OF_THINGS);
            if (fault == NO_FAULT) {
                // Both casts come ahead of the array being nothing.
                fault = castFault(reference, TYPE_THING);
            }
            if (fault == NO_FAULT) {
                fault = cellFault(array, TYPE_ARRAY_OF_THINGS, index);
            }
            if (fault == NO_FAULT && !heap.takes(array, reference)) {
                fault = FAULT_STORE;
            }
            if (fault == NO_FAULT) {
                heap.setCell(array, index, reference);
            }
            return fault;
        }

        private int askFace(int n, int thing, boolean twice) {
            int fault = useFault(thing, TYPE_FACE);
            if (fault == NO_FAULT) {
                boolean nail = heap.kindOf(thing) == NAIL;
                int tag = (nail ? 100 : 200) + thing;
                int twoTimes = 2 * tag + (nail ? 0 : 1);
                numbers[n] = twice ? twoTimes : tag;
            }
            return fault;
        }

        private int getLength(int n, int array) {
            int kind = heap.kindOf(array);
            if (kind == NO_KIND) {
                return FAULT_NOTHING;
            }
            if (!holds(ANY_ARRAY, kind)) {
                return FAULT_CAST;
            }
            numbers[n] = heap.lengthOf(array);
            return NO_FAULT;
        }

        private int getInt(int n, int array, int index) {
            int fault = cellFault(array, TYPE_INTS, index);
            if (fault == NO_FAULT) {
                numbers[n] = heap.cell(array, index);
            }
            return fault;
        }

        private int setInt(int array, int index, int value) {
            int fault = cellFault(array, TYPE_INTS, index);
            if (fault == NO_FAULT) {
                heap.setCell(array, index, value);
            }
            return fault;
        }

        private int divide(int n, int divisor) {
            if (divisor == 0) {
                return FAULT_BY_ZERO;
            }
            numbers[n] /= divisor;
            return NO_FAULT;
        }

        private int move(int from, int to, int start, int count) {
            int fromKind = heap.kindOf(from);
            int toKind = heap.kindOf(to);
            if (fromKind == NO_KIND || toKind == NO_KIND) {
                return FAULT_NOTHING;
            }
            if (!holds(KINDS_TO_MOVE_TO[fromKind], toKind)) {
                return FAULT_STORE;
            }
            if (count < 0 || start < 0 || count > heap.lengthOf(from) || start > heap.lengthOf(to) - count) {
                return FAULT_INDEX;
            }
            return heap.move(from, to, start, count);
        }

        private int castFault(int reference, int type) {
            int kind = heap.kindOf(reference);
            return holds(KINDS_OF_TYPE[type] | ONLY_NOTHING, kind) ? NO_FAULT : FAULT_CAST;
        }

        private int useFault(int reference, int type) {
            int kind = heap.kindOf(reference);
            if (kind == NO_KIND) {
                return FAULT_NOTHING;
            }
            return holds(KINDS_OF_TYPE[type], kind) ? NO_FAULT : FAULT_CAST;
        }

        private int cellFault(int array, int type, int index) {
            int fault = useFault(array, type);
            if (fault != NO_FAULT) {
                return fault;
            }
            return index < 0 || index >= heap.lengthOf(array) ? FAULT_INDEX : NO_FAULT;
        }

        long report(int what) {
            switch (what) {
                case 0:
                    return done;
                case 1:
                    return endedWith;
                case 2:
                    return thrownFault;
                case 3:
                    return thrownStep;
                case 4:
                    return heap.size();
                default:
                    return NOTHING;
            }
        }

        int look(int v, int what) {
            int reference = variables[v];
            int kind = heap.kindOf(reference);
            switch (what) {
                case 0:
                    return kind;
                case 1:
                    return kind == NO_KIND ? NOT_SO : reference;
                case 2:
                    return holds(ANY_ARRAY, kind) ? heap.lengthOf(reference) : NOT_SO;
                default:
                    return holds(ANY_THING, kind) ? heap.kindOf(heap.nextOf(reference)) : NOT_SO;
            }
        }

        int numberAt(int k) {
            return numbers[k];
        }
    }

    /** Tells ahead: the least sets of kinds that hold together, worked out once for a program. */
    private static final class Outlook {
        private static final int ALL_NEXTS = 0;
        private static final int ALL_THINGS = 1;
        private static final int ALL_BOLTS = 2;
        private static final int ALLS = 3;
        // Every round but the last adds a kind to a set, and there are not so many to add.
        private static final int ROUNDS = (STEPS * VARIABLES + ALLS) * KINDS + 1;

        private final Program program;
        private final int[] mays = new int[STEPS * VARIABLES];
        private final int[] alls = new int[ALLS];
        private final int[] after = new int[VARIABLES];
        // The steps come to, and those to be looked at again, as bits.
        private int reached = 0;
        private int waiting = 0;
        private boolean settled = false;

        Outlook(Program program) {
            this.program = program;
        }

        void forget() {
            settled = false;
        }

        /** Works the sets out, if they are not; all that is told needs it first. */
        void settle() {
            if (settled) {
                return;
            }
            settled = true;
            Arrays.fill(mays, 0);
            Arrays.fill(alls, ONLY_NOTHING);
            Arrays.fill(after, ONLY_NOTHING);
            reached = 0;
            waiting = 0;
            goTo(0);
            for (int round = 0; round < ROUNDS && waiting != 0; round++) {
                for (int step = 0; step < program.size(); step++) {
                    if ((waiting >>> step & 1) != 0) {
                        waiting &= ~(1 << step);
                        lookAt(step);
                    }
                }
            }
        }

        int kindsAt(int step, int v) {
            return mays[step * VARIABLES + v];
        }

        int faultsAt(int step) {
            return isReached(step) ? faultsOf(step) : 0;
        }

        int castAt(int step) {
            if (program.codes[step] != CAST || !isReached(step)) {
                return NOT_SO;
            }
            int kinds = kindsAt(step, program.as[step]);
            int good = KINDS_OF_TYPE[program.bs[step]] | ONLY_NOTHING;
            if (!share(kinds, good)) {
                return 2;
            }
            return share(kinds, ~good) ? 1 : 0;
        }

        int allOf(int what) {
            return alls[what];
        }

        private boolean isReached(int step) {
            return (reached >>> step & 1) != 0;
        }

        private void lookAt(int step) {
            store(step);
            if (faultsOf(step) != 0) {
                begin(step);
                goTo(program.handlers[step]);
            }
            begin(step);
            goOn(step, program.codes[step], program.as[step], program.bs[step], program.cs[step]);
        }

        private void begin(int step) {
            for (int v = 0; v < VARIABLES; v++) {
                after[v] = kindsAt(step, v);
            }
        }

        /** Adds what is then to what may be at a step; a jump behind the last step leads nowhere. */
        private void goTo(int step) {
            if (!program.has(step)) {
                return;
            }
            boolean more = false;
            for (int v = 0; v < VARIABLES; v++) {
                int place = step * VARIABLES + v;
                more = more || share(after[v], ~mays[place]);
                mays[place] |= after[v];
            }
            reached |= 1 << step;
            if (more) {
                waiting |= 1 << step;
            }
        }

        private void addToAll(int which, int kinds) {
            if (share(kinds, ~alls[which])) {
                alls[which] |= kinds;
                waiting |= reached;
            }
        }

        /** What the step brings into nexts and cells. */
        private void store(int step) {
            int code = program.codes[step];
            if (code != SET_NEXT && code != SET_CELL && code != MOVE) {
                return;
            }
            int first = kindsAt(step, program.as[step]);
            int second = kindsAt(step, program.bs[step]);
            if (code == SET_NEXT && share(first, ANY_THING)) {
                addToAll(ALL_NEXTS, second);
            } else if (code == SET_CELL) {
                storeCell(first, second);
            } else if (code == MOVE) {
                storeMoved(first, second);
            }
        }

        private void storeCell(int arrays, int kinds) {
            if (share(arrays, ONLY_THINGS)) {
                addToAll(ALL_THINGS, kinds & KINDS_FOR_CELL[THINGS]);
            }
            if (share(arrays, ONLY_BOLTS)) {
                addToAll(ALL_BOLTS, kinds & KINDS_FOR_CELL[BOLTS]);
            }
        }

        private void storeMoved(int from, int to) {
            if (share(from, ONLY_THINGS) && share(to, ONLY_BOLTS)) {
                addToAll(ALL_BOLTS, alls[ALL_THINGS] & KINDS_FOR_CELL[BOLTS]);
            }
            if (share(from, ONLY_BOLTS) && share(to, ONLY_THINGS)) {
                addToAll(ALL_THINGS, alls[ALL_BOLTS] & KINDS_FOR_CELL[THINGS]);
            }
        }

        /** Where the step leads to without a fault; 'after' has what may be at the step. */
        private void goOn(int step, int code, int a, int b, int c) {
            switch (code) {
                case IF_OF_TYPE:
                    goBothWays(step, KINDS_OF_TYPE[b]);
                    break;
                case IF_NOTHING:
                    goBothWays(step, ONLY_NOTHING);
                    break;
                case IF_LESS:
                    goTo(c);
                    goTo(step + 1);
                    break;
                case JUMP:
                    goTo(a);
                    break;
                case FAIL:
                case END:
                    break;
                default:
                    if (pass(code, a, b, c)) {
                        goTo(step + 1);
                    }
                    break;
            }
        }

        private void goBothWays(int step, int kinds) {
            int v = program.as[step];
            if (keep(v, kinds)) {
                goTo(program.cs[step]);
            }
            begin(step);
            if (keep(v, ~kinds)) {
                goTo(step + 1);
            }
        }

        /** Makes 'after' what is behind the step; false if it never comes to be behind it. */
        private boolean pass(int code, int a, int b, int c) {
            switch (code) {
                case DROP:
                    return put(a, ONLY_NOTHING);
                case MAKE:
                case ARRAY:
                    return put(a, only(b));
                case SET:
                    return put(a, after[b]);
                case CAST:
                    return keep(a, KINDS_OF_TYPE[b] | ONLY_NOTHING) && put(c, after[a]);
                case GET_NEXT:
                    return keep(b, ANY_THING) && put(a, alls[ALL_NEXTS]);
                case SET_NEXT:
                    return keep(a, ANY_THING);
                case GET_CELL:
                    return keep(b, KINDS_OF_TYPE[TYPE_ARRAY_OF_THINGS]) && put(a, cellsOf(after[b]));
                case SET_CELL:
                    return keepBoth(a, arraysThatTake(after[b]), b, kindsTakenBy(after[a]));
                case TAG:
                case TWICE:
                    return keep(b, KINDS_OF_TYPE[TYPE_FACE]);
                case LENGTH:
                    return keep(b, ANY_ARRAY);
                case GET_INT:
                    return keep(b, KINDS_OF_TYPE[TYPE_INTS]);
                case SET_INT:
                    return keep(a, KINDS_OF_TYPE[TYPE_INTS]);
                case MOVE:
                    return keepBoth(a, movedTo(after[b]), b, movedFrom(after[a]));
                default:
                    return true;
            }
        }

        private boolean put(int v, int kinds) {
            after[v] = kinds;
            return true;
        }

        private boolean keep(int v, int kinds) {
            after[v] &= kinds;
            return after[v] != 0;
        }

        /** Of a variable that is both, the kinds of both stay. */
        private boolean keepBoth(int v, int kinds, int w, int others) {
            return keep(v, kinds) && keep(w, others);
        }

        private int cellsOf(int arrays) {
            return (share(arrays, ONLY_THINGS) ? alls[ALL_THINGS] : 0)
                    | (share(arrays, ONLY_BOLTS) ? alls[ALL_BOLTS] : 0);
        }

        private static int arraysThatTake(int kinds) {
            return (share(kinds, KINDS_FOR_CELL[THINGS]) ? ONLY_THINGS : 0)
                    | (share(kinds, KINDS_FOR_CELL[BOLTS]) ? ONLY_BOLTS : 0);
        }

        private static int kindsTakenBy(int arrays) {
            return (share(arrays, ONLY_THINGS) ? KINDS_FOR_CELL[THINGS] : 0)
                    | (share(arrays, ONLY_BOLTS) ? KINDS_FOR_CELL[BOLTS] : 0);
        }

        /** The kinds from which cells can go to some of those kinds: with none to go, at least. */
        private static int movedTo(int kinds) {
            int from = 0;
            for (int kind = INTS; kind < KINDS; kind++) {
                if (share(kinds, KINDS_TO_MOVE_TO[kind])) {
                    from |= only(kind);
                }
            }
            return from;
        }

        private static int movedFrom(int kinds) {
            int to = 0;
            for (int kind = INTS; kind < KINDS; kind++) {
                if (holds(kinds, kind)) {
                    to |= KINDS_TO_MOVE_TO[kind];
                }
            }
            return to;
        }

        /** The faults that a step that is come to can have, as bits. */
        private int faultsOf(int step) {
            int a = program.as[step];
            int b = program.bs[step];
            switch (program.codes[step]) {
                case MAKE:
                    return 1 << FAULT_LARGE;
                case ARRAY:
                    return 1 << FAULT_BELOW | 1 << FAULT_LARGE;
                case CAST:
                    return castFaults(kindsAt(step, a), b);
                case GET_NEXT:
                    return useFaults(kindsAt(step, b), TYPE_THING);
                case SET_NEXT:
                    return useFaults(kindsAt(step, a), TYPE_THING);
                case GET_CELL:
                    return cellFaults(kindsAt(step, b), TYPE_ARRAY_OF_THINGS);
                case SET_CELL:
                    return setCellFaults(kindsAt(step, a), kindsAt(step, b));
                case TAG:
                case TWICE:
                    return useFaults(kindsAt(step, b), TYPE_FACE);
                case LENGTH:
                    return lengthFaults(kindsAt(step, b));
                case GET_INT:
                    return cellFaults(kindsAt(step, b), TYPE_INTS);
                case SET_INT:
                    return cellFaults(kindsAt(step, a), TYPE_INTS);
                case DIVIDE:
                    return 1 << FAULT_BY_ZERO;
                case FAIL:
                    return 1 << FAULT_FAIL;
                case MOVE:
                    return moveFaults(kindsAt(step, a), kindsAt(step, b));
                default:
                    return 0;
            }
        }

        private static int castFaults(int kinds, int type) {
            return faultIf(share(kinds, ~(KINDS_OF_TYPE[type] | ONLY_NOTHING)), FAULT_CAST);
        }

        private static int useFaults(int kinds, int type) {
            return castFaults(kinds, type) | faultIf(share(kinds, ONLY_NOTHING), FAULT_NOTHING);
        }

        private static int cellFaults(int kinds, int type) {
            return castFaults(kinds, type)
                    | faultIf(share(kinds, ONLY_NOTHING), FAULT_NOTHING)
                    | faultIf(share(kinds, KINDS_OF_TYPE[type]), FAULT_INDEX);
        }

        private static int lengthFaults(int kinds) {
            return faultIf(share(kinds, ONLY_NOTHING), FAULT_NOTHING) | faultIf(share(kinds, ANY_THING), FAULT_CAST);
        }

        private static int setCellFaults(int arrays, int kinds) {
            int casts = castFaults(arrays, TYPE_ARRAY_OF_THINGS) | castFaults(kinds, TYPE_THING);
            int stored = kinds & KINDS_FOR_CELL[THINGS];
            if (stored == 0) {
                // One cast or the other fails each time, so nothing behind them is come to.
                return casts;
            }
            boolean unfit = share(arrays, ONLY_BOLTS) && share(stored, ~KINDS_FOR_CELL[BOLTS]);
            return casts | cellFaults(arrays, TYPE_ARRAY_OF_THINGS) | faultIf(unfit, FAULT_STORE);
        }

        private int moveFaults(int from, int to) {
            int found = faultIf(share(from | to, ONLY_NOTHING), FAULT_NOTHING);
            for (int kind = THING; kind < KINDS; kind++) {
                if (holds(from, kind)) {
                    found |= moveFaultsOf(kind, to & ~ONLY_NOTHING);
                }
            }
            return found;
        }

        private int moveFaultsOf(int kind, int to) {
            int good = to & KINDS_TO_MOVE_TO[kind];
            boolean unfit = good != to;
            for (int other = THINGS; other < KINDS; other++) {
                unfit = unfit || holds(good, other) && share(cellsIn(kind), ~KINDS_FOR_CELL[other]);
            }
            return faultIf(unfit, FAULT_STORE) | faultIf(good != 0, FAULT_INDEX);
        }

        private int cellsIn(int kind) {
            switch (kind) {
                case THINGS:
                    return alls[ALL_THINGS];
                case BOLTS:
                    return alls[ALL_BOLTS];
                default:
                    return KINDS_FOR_CELL[kind];
            }
        }
    }
}
