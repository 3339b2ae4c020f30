import java.lang.reflect.Array;
import java.util.ArrayList;
import java.util.List;

/**
 * The same runs by another way: with real Java objects and arrays, whose faults are those that the
 * Java machine throws. Made for the tests only, to compare NullKinds with.
 */
final class JvmModel {
    interface Face {
        int tag(int number);

        int twice(int number);
    }

    static class Thing {
        Object next;
    }

    static final class Nail extends Thing implements Face {
        @Override
        public int tag(int number) {
            return 100 + number;
        }

        @Override
        public int twice(int number) {
            return 2 * tag(number);
        }
    }

    static class Bolt extends Thing { }

    static final class Screw extends Bolt implements Face {
        @Override
        public int tag(int number) {
            return 200 + number;
        }

        @Override
        public int twice(int number) {
            return 2 * tag(number) + 1;
        }
    }

    static final class Failed extends RuntimeException {
        private static final long serialVersionUID = 1;
        final transient int fault;

        Failed(int fault) {
            this.fault = fault;
        }
    }

    private static final Class<?>[] KINDS = {
        null, Thing.class, Nail.class, Bolt.class, Screw.class,
        int[].class, byte[].class, Thing[].class, Bolt[].class, int[][].class,
    };
    private static final Class<?>[] TYPES = {
        Object.class, Thing.class, Nail.class, Bolt.class, Screw.class, Face.class,
        int[].class, byte[].class, Thing[].class, Bolt[].class, int[][].class,
    };

    final Object[] v = new Object[6];
    final int[] n = new int[4];
    final List<Object> made = new ArrayList<>();
    int at;
    int state;
    int done;
    int faulted;
    int endedWith;
    int thrownFault;
    int thrownStep;

    static int kindOf(Object o) {
        for (int kind = 1; o != null && kind < KINDS.length; kind++) {
            if (KINDS[kind] == o.getClass()) {
                return kind;
            }
        }
        return 0;
    }

    static Object fresh(int kind, int length) {
        switch (kind) {
            case 0: return null;
            case 1: return new Thing();
            case 2: return new Nail();
            case 3: return new Bolt();
            case 4: return new Screw();
            case 5: return new int[length];
            case 6: return new byte[length];
            case 7: return new Thing[length];
            case 8: return new Bolt[length];
            default: return new int[length][2];
        }
    }

    int numberOf(Object o) {
        for (int i = 0; i < made.size(); i++) {
            if (made.get(i) == o) {
                return i;
            }
        }
        return -3;
    }

    /** What is watched as each step begins and as it has a fault. */
    interface Watcher {
        void begins(int step, JvmModel model);

        void faults(int step, int fault);
    }

    int run(List<int[]> steps, int x, int y, Watcher watcher) {
        n[0] = x;
        n[1] = y;
        state = -1;
        thrownStep = -3;
        while (state < 0) {
            if (at >= steps.size()) {
                state = 0;
            } else if (done == 200) {
                state = 2;
            } else {
                one(steps.get(at), watcher);
            }
        }
        return state;
    }

    private void one(int[] step, Watcher watcher) {
        int here = at;
        watcher.begins(here, this);
        done++;
        int fault = tryStep(step);
        if (fault == 0) {
            return;
        }
        watcher.faults(here, fault);
        if (++faulted == 9) {
            state = 2;
        } else if (step[4] < 0) {
            state = 1;
            thrownFault = fault;
            thrownStep = here;
        } else {
            n[2] = fault;
            at = step[4];
        }
    }

    int tryStep(int[] step) {
        at++;
        try {
            act(step[0], step[1], step[2], step[3]);
            return 0;
        } catch (NullPointerException e) {
            return 1;
        } catch (ClassCastException e) {
            return 2;
        } catch (IndexOutOfBoundsException e) {
            return 3;
        } catch (ArrayStoreException e) {
            return 4;
        } catch (NegativeArraySizeException e) {
            return 5;
        } catch (ArithmeticException e) {
            return 6;
        } catch (Failed e) {
            return e.fault;
        }
    }

    private Object add(Object o) {
        made.add(o);
        return o;
    }

    private void room() {
        if (made.size() >= 40) {
            throw new Failed(8);
        }
    }

    private void act(int code, int a, int b, int c) {
        switch (code) {
            case 0: v[a] = null; break;
            case 1: room(); v[a] = add(fresh(b, 0)); break;
            case 2:
                if (n[c] > 20) {
                    throw new Failed(8);
                }
                Object array = fresh(b, n[c]);
                room();
                v[a] = add(array);
                break;
            case 3: v[a] = v[b]; break;
            case 4: at = TYPES[b].isInstance(v[a]) ? c : at; break;
            case 5: at = v[a] == null ? c : at; break;
            case 6: v[c] = TYPES[b].cast(v[a]); break;
            case 7: v[a] = ((Thing) v[b]).next; break;
            case 8: ((Thing) v[a]).next = v[b]; break;
            case 9: v[a] = ((Thing[]) v[b])[n[c]]; break;
            case 10: ((Thing[]) v[a])[n[c]] = (Thing) v[b]; break;
            case 11: n[a] = ((Face) v[b]).tag(numberOf(v[b])); break;
            case 12: n[a] = ((Face) v[b]).twice(numberOf(v[b])); break;
            case 13: n[a] = lengthOf(v[b]); break;
            case 14: n[a] = ((int[]) v[b])[n[c]]; break;
            case 15: ((int[]) v[a])[n[b]] = n[c]; break;
            case 16: n[a] = b; break;
            case 17: n[a] = n[a] + n[b]; break;
            case 18: n[a] = n[a] / n[b]; break;
            case 19: at = n[a] < n[b] ? c : at; break;
            case 20: at = a; break;
            case 21: throw new Failed(7);
            case 22: System.arraycopy(v[a], 0, v[b], n[c], n[3]); break;
            default: state = 0; endedWith = n[a]; break;
        }
    }

    static int lengthOf(Object o) {
        try {
            return Array.getLength(o);
        } catch (IllegalArgumentException e) {
            throw new Failed(2);
        }
    }
}
