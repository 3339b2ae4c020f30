/** Counts the answers that are not as due, prints them, and makes objects with steps in them. */
final class Check {
    private final String name;
    private int asked = 0;
    private int wrong = 0;

    Check(String name) {
        this.name = name;
    }

    void due(String call, long got, long want) {
        asked++;
        if (got != want) {
            wrong++;
            if (wrong <= 40) {
                System.out.println(name + ": " + call + " answered " + got + ", due is " + want);
            }
        }
    }

    void holds(String what, boolean so) {
        due(what, so ? 1 : 0, 1);
    }

    void meanThrows(String when, NullKinds x) {
        boolean thrown = false;
        try {
            x.mean();
        } catch (ArithmeticException e) {
            thrown = true;
        }
        holds("mean() throws " + when, thrown);
    }

    int wrong() {
        return wrong;
    }

    void end() {
        System.out.println(name + ": " + (asked - wrong) + " of " + asked + " answers as due");
        if (wrong != 0) {
            System.exit(1);
        }
    }

    /** The kinds, or the faults, as bits. */
    static int bits(int... which) {
        int set = 0;
        for (int one : which) {
            set |= 1 << one;
        }
        return set;
    }

    /** A step's code, a, b, c, handler; what is left out is 0, the handler -1. */
    static int[] s(int... parts) {
        int[] step = {0, 0, 0, 0, -1};
        System.arraycopy(parts, 0, step, 0, parts.length);
        return step;
    }

    static NullKinds program(int[]... steps) {
        NullKinds x = new NullKinds();
        for (int i = 0; i < steps.length; i++) {
            if (add(x, steps[i]) != i) {
                throw new IllegalStateException("step " + i + " of the test was refused");
            }
        }
        return x;
    }

    static int add(NullKinds x, int... step) {
        return x.step(step[0], step[1], step[2], step[3], step[4]);
    }
}
