/** Promise 2: the bounds of all that a code names, what it does not name, room, what is forgotten. */
public final class StepTest extends Programs {
    // A column a code, as the document's terms name a, b, c: V variable, N number, K kind 1 to 4,
    // A kind 5 to 9, T type, S step, '-' not looked at.
    private static final String[] NAMES = {
        "V--", "VK-", "VAN", "VV-", "VTS", "V-S", "VTV", "VV-", "VV-", "VVN", "VVN", "NV-",
        "NV-", "NV-", "NVN", "VNN", "N--", "NN-", "NN-", "NNS", "S--", "---", "VVN", "N--",
    };
    private static final int[] WILD = {Integer.MIN_VALUE, -7, -2, -1, 11, 31, 32, 33, 34, 64, Integer.MAX_VALUE};

    private static final Check CHECK = new Check("StepTest");

    public static void main(String[] args) {
        for (int code = 0; code < NAMES.length; code++) {
            for (int place = 0; place < 3; place++) {
                tryPlace(code, place);
            }
        }
        tryCodes();
        tryHandlers();
        tryRoom();
        tryForgetting();
        CHECK.end();
    }

    private static int low(char name) {
        return name == 'K' ? 1 : name == 'A' ? 5 : 0;
    }

    private static int high(char name) {
        return "VNKATS".indexOf(name) < 0 ? 0 : new int[] {5, 3, 4, 9, 10, 32}["VNKATS".indexOf(name)];
    }

    private static void tryPlace(int code, int place) {
        char name = NAMES[code].charAt(place);
        for (int value = -2; value <= 34; value++) {
            tryValue(code, place, name, value);
        }
        for (int value : WILD) {
            tryValue(code, place, name, value);
        }
    }

    private static void tryValue(int code, int place, char name, int value) {
        int[] step = {code, 0, 0, 0, -1};
        for (int other = 0; other < 3; other++) {
            step[1 + other] = low(NAMES[code].charAt(other));
        }
        step[1 + place] = value;
        boolean good = name == '-' || value >= low(name) && value <= high(name);
        NullKinds x = new NullKinds();
        String call = "step(" + code + ", " + step[1] + ", " + step[2] + ", " + step[3] + ", -1)";
        CHECK.due(call, add(x, step), good ? 0 : -2);
        CHECK.due("clear() behind " + call, x.clear(), good ? 1 : 0);
    }

    private static void tryCodes() {
        NullKinds x = new NullKinds();
        for (int code : new int[] {-1, 24, 25, 1000, -24, Integer.MIN_VALUE, Integer.MAX_VALUE}) {
            CHECK.due("step of code " + code, x.step(code, 0, 5, 0, -1), -2);
        }
        CHECK.due("clear()", x.clear(), 0);
    }

    private static void tryHandlers() {
        for (int handler = -3; handler <= 34; handler++) {
            for (int code : new int[] {0, 20, 21, 23}) {
                CHECK.due("handler " + handler + " of code " + code,
                        new NullKinds().step(code, 0, 0, 0, handler), handler >= -1 && handler <= 32 ? 0 : -2);
            }
        }
        CHECK.due("handler at the lowest", new NullKinds().step(0, 0, 0, 0, Integer.MIN_VALUE), -2);
        CHECK.due("handler at the highest", new NullKinds().step(0, 0, 0, 0, Integer.MAX_VALUE), -2);
    }

    private static void tryRoom() {
        NullKinds x = new NullKinds();
        for (int i = 0; i < 32; i++) {
            CHECK.due("step no. " + i, x.step(16, 0, i, 0, -1), i);
        }
        CHECK.due("run of 32 steps", x.run(0, 0), 0);
        CHECK.due("a 33rd step", x.step(16, 0, 0, 0, -1), -4);
        CHECK.due("a 33rd step out of bounds", x.step(16, 4, 0, 0, -1), -2);
        CHECK.due("seen stays behind refusals", x.seen(31, 0), 1);
        CHECK.due("mean stays behind refusals", x.mean(), 32);
        CHECK.due("clear()", x.clear(), 32);
        CHECK.due("room again", x.step(16, 0, 0, 0, -1), 0);
    }

    private static void tryForgetting() {
        NullKinds x = program(s(21, 0, 0, 0, 1));
        CHECK.due("run", x.run(3, 4), 0);
        CHECK.due("refused", x.step(0, 6, 0, 0, -1), -2);
        CHECK.due("seen behind a refusal", x.seen(0, 0), 1);
        CHECK.due("had behind a refusal", x.had(0), bits(7));
        CHECK.due("mean behind a refusal", x.mean(), 1);
        CHECK.due("a step more", x.step(0, 0, 0, 0, -1), 1);
        CHECK.due("seen is forgotten", x.seen(0, 0), 0);
        CHECK.due("had is forgotten", x.had(0), 0);
        CHECK.meanThrows("behind a step more", x);
        CHECK.due("the latest run stays: steps", x.ran(0), 1);
        CHECK.due("the latest run stays: number", x.number(0), 3);
        CHECK.due("the latest run stays: variable", x.variable(0, 0), 0);
        CHECK.due("the step added is run", x.run(0, 0), 0);
        CHECK.due("two steps now", x.ran(0), 2);
    }
}
