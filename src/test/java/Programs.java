import java.util.ArrayList;
import java.util.Arrays;
import java.util.List;

/** Parts that the tests put their programs together of; tests extend it to name them shortly. */
abstract class Programs {
    /** A step's code, a, b, c, handler; what is left out is 0, the handler -1. */
    static int[] s(int... parts) {
        int[] step = {0, 0, 0, 0, -1};
        System.arraycopy(parts, 0, step, 0, parts.length);
        return step;
    }

    static NullKinds program(int[]... steps) {
        NullKinds x = new NullKinds();
        for (int i = 0; i < steps.length; i++) {
            if (add(x, steps[i]) != i) {
                throw new IllegalStateException("step " + i + " of the test was refused");
            }
        }
        return x;
    }

    static int add(NullKinds x, int... step) {
        return x.step(step[0], step[1], step[2], step[3], step[4]);
    }

    /** The kinds, or the faults, as bits. */
    static int bits(int... which) {
        int set = 0;
        for (int one : which) {
            set |= 1 << one;
        }
        return set;
    }

    static int[] k(int... kinds) {
        return kinds;
    }

    /** V(v) becomes something of the kind (an array of LENGTH N(1)), or nothing. */
    static int[] get(int v, int kind) {
        return kind == 0 ? s(0, v) : s(kind < 5 ? 1 : 2, v, kind, 1);
    }

    /** Five steps that make so many THINGS, the latest in V(5); their RUN must be told 0 for N(0). */
    static int[][] makes(int count) {
        return new int[][] {s(16, 3, count), s(16, 2, 1), s(1, 5, 1), s(17, 0, 2), s(19, 0, 3, 2)};
    }

    /** Steps from 'at' on that let V(v) be any of the kinds, as N(0), N(1) come. */
    static int[][] choose(int v, int at, int... kinds) {
        int[][] steps = new int[kinds.length * 3][];
        for (int i = 0; i < kinds.length; i++) {
            int end = at + steps.length;
            steps[3 * i] = s(19, 0, 1, at + 3 * i + 3 < end ? at + 3 * i + 3 : at + 3 * i + 1);
            steps[3 * i + 1] = kinds[i] == 0 ? s(0, v) : s(kinds[i] < 5 ? 1 : 2, v, kinds[i]);
            steps[3 * i + 2] = s(20, end);
        }
        return steps;
    }

    /** All 32 steps, of which each leads behind the last one. */
    static NullKinds full() {
        int[][] steps = new int[32][];
        Arrays.fill(steps, s(20, 32));
        return program(steps);
    }

    static int[][] join(int[][] first, int[]... more) {
        List<int[]> steps = new ArrayList<>(Arrays.asList(first));
        steps.addAll(Arrays.asList(more));
        return steps.toArray(new int[0][]);
    }

    static NullKinds behind(int[][] first, int[]... more) {
        return program(join(first, more));
    }

    /** V(0) may be any of 'first', V(1) any of 'second', at the steps behind. */
    static NullKinds two(int[] first, int[] second, int[]... more) {
        int[][] one = choose(0, 0, first);
        return behind(join(one, choose(1, one.length, second)), more);
    }
}
