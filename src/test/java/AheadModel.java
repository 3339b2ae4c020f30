import java.util.Arrays;
import java.util.List;

/**
 * What is told ahead, by another way: each step is tried out in a JvmModel for each kind of what it
 * names, with small lengths, numbers and cells, and the sets grow until they hold.
 */
final class AheadModel {
    private static final int FIRST_NEXT = 16;
    private static final int FIRST_JUMP = 32;
    private static final int NO_TARGET = 10;
    // Which of a, b, c a code reads as V ('r'), writes as V ('w'), or takes as a number ('n').
    private static final String[] USES = {
        "w--", "w--", "w-n", "wr-", "r--", "r--", "r-w", "wr-", "rr-", "wrn", "rrn", "nr-",
        "nr-", "nr-", "nrn", "rnn", "n--", "nn-", "nn-", "nn-", "---", "---", "rrn", "n--",
    };
    private static final int[] NUMBERS = {-1, 0, 1, 2, 21};
    private static final int[] NONE = {0};
    // By code, b, kinds of both that are read, kind in cells and next: what can come of it.
    private static final long[] TRIED = new long[24 * 11 * 1000];

    final int[][] may;
    final int[] all = {1, 1, 1};
    private final List<int[]> steps;
    private boolean grown;

    AheadModel(List<int[]> steps) {
        this.steps = steps;
        may = new int[steps.size()][6];
        if (!steps.isEmpty()) {
            Arrays.fill(may[0], 1);
        }
        do {
            grown = false;
            for (int s = 0; s < steps.size(); s++) {
                if (may[s][0] != 0) {
                    spread(s, steps.get(s));
                }
            }
        } while (grown);
    }

    int faults(int s) {
        int found = 0;
        int[] step = steps.get(s);
        for (int first = 0; first < 10; first++) {
            for (int second = 0; second < 10; second++) {
                found |= (int) outcomes(s, step, first, second) & 0x1FE;
            }
        }
        return found;
    }

    int cast(int s) {
        if (steps.get(s)[0] != 6 || may[s][0] == 0) {
            return -3;
        }
        boolean fails = false;
        boolean goes = false;
        for (int kind = 0; kind < 10; kind++) {
            long come = outcomes(s, steps.get(s), kind, 0);
            fails = fails || (come & 0x1FE) != 0;
            goes = goes || come >>> FIRST_NEXT != 0;
        }
        return fails ? goes ? 1 : 2 : 0;
    }

    /** The variables that are read: one, two or none (-1). */
    private static int read(int[] step, int which) {
        String uses = USES[step[0]];
        int found = uses.indexOf('r');
        if (which == 1 && found >= 0) {
            found = uses.indexOf('r', found + 1);
        }
        return found < 0 ? -1 : step[1 + found];
    }

    private int kindsRead(int s, int[] step, int which) {
        int v = read(step, which);
        return v < 0 ? 1 : may[s][v];
    }

    private long outcomes(int s, int[] step, int first, int second) {
        boolean can = (kindsRead(s, step, 0) >> first & 1) != 0 && (kindsRead(s, step, 1) >> second & 1) != 0;
        if (may[s][0] == 0 || !can) {
            return 0;
        }
        int inside = first == 7 ? all[1] : first == 8 ? all[2] : first == 9 ? 33 : first == 0 || first > 4 ? 1 : all[0];
        long come = 0;
        for (int kind = 0; kind < 10; kind++) {
            if ((inside >> kind & 1) != 0) {
                come |= tried(step, first, second, kind);
            }
        }
        return come;
    }

    private void spread(int s, int[] step) {
        int first = read(step, 0);
        int second = read(step, 1);
        int[] went = new int[44 * 2];
        for (int one = 0; one < 10; one++) {
            for (int other = 0; other < 10; other++) {
                long come = outcomes(s, step, one, other);
                if ((come & 0x1FE) != 0 && step[4] >= 0) {
                    flow(step[4], may[s].clone());
                }
                for (int end = FIRST_NEXT; end < 44; end++) {
                    if ((come >>> end & 1) != 0) {
                        went[2 * end] |= 1 << one;
                        went[2 * end + 1] |= 1 << other;
                    }
                }
                store(s, step);
            }
        }
        go(s, step, went, FIRST_NEXT, s + 1, first, second);
        go(s, step, went, FIRST_JUMP, step[0] == 20 ? step[1] : step[3], first, second);
    }

    private void go(int s, int[] step, int[] went, int from, int target, int first, int second) {
        int[] then = may[s].clone();
        int kept = 0;
        int others = 0;
        int written = 0;
        for (int kind = 0; kind <= NO_TARGET; kind++) {
            kept |= went[2 * (from + kind)];
            others |= went[2 * (from + kind) + 1];
            if (kind < NO_TARGET && went[2 * (from + kind)] != 0) {
                written |= 1 << kind;
            }
        }
        if (kept == 0) {
            return;
        }
        if (first >= 0) {
            then[first] &= kept;
        }
        if (second >= 0) {
            then[second] &= others;
        }
        for (int kinds : then) {
            if (kinds == 0) {
                return;
            }
        }
        int place = USES[step[0]].indexOf('w');
        if (place >= 0) {
            then[step[1 + place]] = written;
        }
        flow(target, then);
    }

    private void flow(int target, int[] kinds) {
        if (target >= steps.size()) {
            return;
        }
        for (int v = 0; v < 6; v++) {
            grown = grown || (kinds[v] & ~may[target][v]) != 0;
            may[target][v] |= kinds[v];
        }
    }

    private void grow(int which, int kinds) {
        grown = grown || (kinds & ~all[which]) != 0;
        all[which] |= kinds;
    }

    private void store(int s, int[] step) {
        if (step[0] != 8 && step[0] != 10 && step[0] != 22) {
            return;
        }
        for (int one = 1; one < 9; one++) {
            if ((may[s][step[1]] >> one & 1) == 0) {
                continue;
            }
            int other = may[s][step[2]];
            if (step[0] == 8 && one <= 4) {
                grow(0, other);
            } else if (step[0] == 10 && one >= 7) {
                grow(one == 7 ? 1 : 2, other & (one == 7 ? 0x1F : 0x19));
            } else if (step[0] == 22 && one == 7 && (other >> 8 & 1) != 0) {
                grow(2, all[1] & 0x19);
            } else if (step[0] == 22 && one == 8 && (other >> 7 & 1) != 0) {
                grow(1, all[2]);
            }
        }
    }

    private static long tried(int[] step, int first, int second, int inside) {
        boolean looksAtB = step[0] == 4 || step[0] == 6 || step[0] == 1 || step[0] == 2;
        int b = looksAtB ? step[2] : 0;
        int place = ((step[0] * 11 + b) * 10 + first) * 100 + second * 10 + inside;
        if (TRIED[place] == 0) {
            TRIED[place] = tryOut(step[0], b, first, second, inside);
        }
        return TRIED[place];
    }

    private static int[] lengths(int kind) {
        return kind < 5 ? NONE : new int[] {0, 1, 2, 3};
    }

    private static int[] numbers(int code, int place) {
        boolean used = place < 3 ? USES[code].charAt(place) == 'n' : code == 22;
        return used ? NUMBERS : NONE;
    }

    /** V and N of a, b, c stand apart here: 0, 1, 2, each on its own; N(3) is the fourth. */
    private static long tryOut(int code, int b, int first, int second, int inside) {
        long come = 0;
        for (int length : lengths(first)) {
            for (int other : lengths(second)) {
                for (int n0 : numbers(code, 0)) {
                    for (int n1 : numbers(code, 1)) {
                        for (int n2 : numbers(code, 2)) {
                            for (int n3 : numbers(code, 3)) {
                                JvmModel m = new JvmModel();
                                Object one = filled(first, length, inside);
                                Object two = JvmModel.fresh(second, other);
                                int[] n = {n0, n1, n2, n3};
                                System.arraycopy(n, 0, m.n, 0, 4);
                                come |= tryOne(m, code, b, one, two);
                            }
                        }
                    }
                }
            }
        }
        if (code == 1 || code == 2) {
            JvmModel full = new JvmModel();
            for (int i = 0; i < 40; i++) {
                full.made.add(new Object());
            }
            come |= tryOne(full, code, b, null, null);
        }
        return come;
    }

    private static long tryOne(JvmModel m, int code, int b, Object one, Object two) {
        String uses = USES[code];
        int place = uses.indexOf('r');
        if (place >= 0) {
            m.v[place] = one;
            place = uses.indexOf('r', place + 1);
        }
        if (place >= 0) {
            m.v[place] = two;
        }
        boolean looksAtB = code == 4 || code == 6 || code == 1 || code == 2;
        m.state = -1;
        // A jump goes to step 2; without one step 1 is next.
        int fault = m.tryStep(new int[] {code, code == 20 ? 2 : 0, looksAtB ? b : 1, 2, -1});
        if (fault != 0) {
            return 1L << fault;
        }
        if (m.state == 0) {
            return 1;
        }
        int target = uses.indexOf('w');
        int kind = target < 0 ? NO_TARGET : JvmModel.kindOf(m.v[target]);
        return 1L << (m.at == 2 ? FIRST_JUMP : FIRST_NEXT) + kind;
    }

    private static Object filled(int kind, int length, int inside) {
        Object o = JvmModel.fresh(kind, length);
        Object in = JvmModel.fresh(inside, 2);
        if (kind >= 1 && kind <= 4) {
            ((JvmModel.Thing) o).next = in;
        } else if (kind >= 7) {
            Arrays.fill((Object[]) o, in);
        }
        return o;
    }
}
