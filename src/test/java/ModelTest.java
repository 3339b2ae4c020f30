import java.util.ArrayList;
import java.util.List;

/** Many programs by a fixed rule: NullKinds against the models, and runs against what was told ahead. */
public final class ModelTest extends Programs {
    private static final Check CHECK = new Check("ModelTest");
    private static final int PROGRAMS = 6000;
    private static final String[] NAMES = {
        "V--", "VK-", "VAN", "VV-", "VTS", "V-S", "VTV", "VV-", "VV-", "VVN", "VVN", "NV-",
        "NV-", "NV-", "NVN", "VNN", "N--", "NN-", "NN-", "NNS", "S--", "---", "VVN", "N--",
    };
    // Codes by how often they come: those that make something more often than those that end.
    private static final int[] CODES = {
        0, 1, 1, 1, 1, 2, 2, 2, 2, 3, 4, 4, 5, 5, 6, 6, 7, 7, 7, 8, 8, 8, 9, 9, 9, 10, 10, 10, 10,
        11, 12, 13, 14, 15, 15, 16, 16, 16, 17, 18, 19, 19, 20, 21, 22, 22, 22, 22, 23,
    };
    private static final int[] SMALL = {0, 0, 1, 1, 2, 3, -1, 20, 21, 5};
    private static long seed = 20261116;

    public static void main(String[] args) {
        int[] faultsSeen = new int[9];
        int[] states = new int[3];
        for (int p = 0; p < PROGRAMS && CHECK.wrong() == 0; p++) {
            List<int[]> steps = program(p);
            compare(p, steps, faultsSeen, states);
            if (CHECK.wrong() != 0) {
                show(steps);
            }
        }
        for (int fault = 1; fault <= 8; fault++) {
            CHECK.holds("fault " + fault + " came often", faultsSeen[fault] >= 20);
        }
        for (int state = 0; state <= 2; state++) {
            CHECK.holds("answer " + state + " of run came often", states[state] >= 100);
        }
        CHECK.end();
    }

    private static int next(int bound) {
        seed = seed * 6364136223846793005L + 1442695040888963407L;
        return (int) ((seed >>> 33) % bound);
    }

    private static int pick(int[] from) {
        return from[next(from.length)];
    }

    private static List<int[]> program(int p) {
        List<int[]> steps = new ArrayList<>();
        int count = p % 5 == 0 ? next(8) : 4 + next(29);
        // Few variables at times, so that programs do more with each of them.
        int variables = p % 3 == 0 ? 2 : p % 3 == 1 ? 3 : 6;
        for (int i = 0; i < count; i++) {
            int code = pick(CODES);
            int[] step = {code, 0, 0, 0, next(3) == 0 ? -1 : toward(i, count)};
            for (int place = 0; place < 3; place++) {
                step[1 + place] = value(NAMES[code].charAt(place), variables, i, count);
            }
            steps.add(step);
        }
        return steps;
    }

    private static int toward(int here, int count) {
        int to = next(3) == 0 ? next(count + 1) : here + 1 + next(4);
        return to > 32 ? 32 : to;
    }

    private static int value(char name, int variables, int here, int count) {
        switch (name) {
            case 'V': return next(variables);
            case 'N': return next(4);
            case 'K': return 1 + next(4);
            case 'A': return next(3) == 0 ? 5 + next(5) : 7 + next(2);
            case 'T': return next(11);
            case 'S': return toward(here, count);
            default: return pick(SMALL);
        }
    }

    private static void show(List<int[]> steps) {
        for (int[] s : steps) {
            System.out.println("  step(" + s[0] + ", " + s[1] + ", " + s[2] + ", " + s[3] + ", " + s[4] + ")");
        }
    }

    private static void compare(int p, List<int[]> steps, int[] faultsSeen, int[] states) {
        NullKinds x = new NullKinds();
        for (int i = 0; i < steps.size(); i++) {
            CHECK.due("step", add(x, steps.get(i)), i);
            if (p % 7 == 0) {
                x.all(0);
            }
        }
        int[][] seen = new int[32][6];
        int[] had = new int[32];
        int done = 0;
        int runs = 4;
        for (int r = 0; r < runs; r++) {
            done += compareRun(x, steps, seen, had, states);
        }
        CHECK.due("mean()", x.mean(), done / runs);
        compareAhead(x, steps);
        for (int s = 0; s < steps.size(); s++) {
            CHECK.due("had(" + s + ")", x.had(s), had[s]);
            CHECK.due("had(" + s + ") that was not told", x.had(s) & ~x.faults(s), 0);
            for (int v = 0; v < 6; v++) {
                CHECK.due("seen(" + s + ", " + v + ")", x.seen(s, v), seen[s][v]);
                CHECK.due("seen(" + s + ", " + v + ") that was not told", x.seen(s, v) & ~x.may(s, v), 0);
            }
            for (int fault = 1; fault <= 8; fault++) {
                faultsSeen[fault] += had[s] >> fault & 1;
            }
        }
        CHECK.due("clear()", x.clear(), steps.size());
    }

    private static int compareRun(NullKinds x, List<int[]> steps, int[][] seen, int[] had, int[] states) {
        int a = pick(SMALL);
        int b = pick(SMALL);
        JvmModel model = new JvmModel();
        int state = model.run(steps, a, b, new JvmModel.Watcher() {
            @Override
            public void begins(int step, JvmModel m) {
                for (int v = 0; v < 6; v++) {
                    seen[step][v] |= 1 << JvmModel.kindOf(m.v[v]);
                }
            }

            @Override
            public void faults(int step, int fault) {
                had[step] |= 1 << fault;
            }
        });
        states[state]++;
        CHECK.due("run(" + a + ", " + b + ")", x.run(a, b), state);
        long[] ran = {model.done, model.endedWith, model.thrownFault, model.thrownStep, model.made.size()};
        for (int what = 0; what < ran.length; what++) {
            CHECK.due("ran(" + what + ")", x.ran(what), ran[what]);
        }
        for (int k = 0; k < 4; k++) {
            CHECK.due("number(" + k + ")", x.number(k), model.n[k]);
        }
        for (int v = 0; v < 6; v++) {
            compareVariable(x, model, v);
        }
        return model.done;
    }

    private static void compareVariable(NullKinds x, JvmModel model, int v) {
        Object o = model.v[v];
        boolean thing = o instanceof JvmModel.Thing;
        CHECK.due("variable(" + v + ", 0)", x.variable(v, 0), JvmModel.kindOf(o));
        CHECK.due("variable(" + v + ", 1)", x.variable(v, 1), o == null ? -3 : model.numberOf(o));
        CHECK.due("variable(" + v + ", 2)", x.variable(v, 2), o == null || thing ? -3 : JvmModel.lengthOf(o));
        CHECK.due("variable(" + v + ", 3)", x.variable(v, 3), thing ? JvmModel.kindOf(((JvmModel.Thing) o).next) : -3);
    }

    private static void compareAhead(NullKinds x, List<int[]> steps) {
        AheadModel model = new AheadModel(steps);
        for (int s = 0; s < steps.size(); s++) {
            for (int v = 0; v < 6; v++) {
                CHECK.due("may(" + s + ", " + v + ")", x.may(s, v), model.may[s][v]);
            }
            CHECK.due("faults(" + s + ")", x.faults(s), model.faults(s));
            CHECK.due("cast(" + s + ")", x.cast(s), model.cast(s));
        }
        for (int what = 0; what < 3; what++) {
            CHECK.due("all(" + what + ")", x.all(what), model.all[what]);
        }
    }
}
