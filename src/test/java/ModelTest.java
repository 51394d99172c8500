import java.util.ArrayList;
import java.util.List;
import java.util.Random;
import java.util.TreeSet;

/** All promises: long runs of calls drawn from a fixed seed, each answer held against the Model's. */
public final class ModelTest {
    private static final int RUNS = 3000;
    private static final int CALLS_A_RUN = 512;
    private static final int[] ODD = {-1, -2, 9, 12, 13, 59, 60, 61, 255, 256, Integer.MIN_VALUE, Integer.MAX_VALUE};
    private static final long[] FAR = {0, 1, -1, Long.MIN_VALUE, Long.MAX_VALUE, 1L << 32, -(1L << 32)};
    /** How often, of 105: make, drop, numbers, about, collect, collected, define, answer, fails, call, all others. */
    private static final int[] WEIGHTS = {14, 1, 2, 4, 16, 2, 5, 4, 3, 26, 28};

    private final Random random;
    private final BuildCounter x = new BuildCounter();
    private final Model model = new Model();
    private final List<String> trace = new ArrayList<>();
    private final TreeSet<Long> callAnswers;

    private ModelTest(long seed, TreeSet<Long> callAnswers) {
        this.random = new Random(seed);
        this.callAnswers = callAnswers;
    }

    public static void main(String[] args) {
        TreeSet<Long> seen = new TreeSet<>();
        int wrong = 0;
        for (int run = 0; run < RUNS && wrong < 3; run++) {
            if (!new ModelTest(run, seen).run(run)) {
                wrong++;
            }
        }
        for (long due : new long[] {-1, -2, -3, -4, -5, -11, -12, -13}) {
            if (!seen.contains(due)) {
                wrong++;
                System.out.println("no call answered " + due + ": the runs don't reach far enough");
            }
        }
        System.out.println(RUNS + " runs, " + wrong + " not as due");
        if (wrong != 0) {
            System.exit(1);
        }
    }

    private boolean run(int run) {
        for (int n = 0; n < CALLS_A_RUN; n++) {
            if (!step()) {
                System.out.println("run " + run + ", the last of these is wrong:");
                trace.forEach(System.out::println);
                return false;
            }
        }
        return true;
    }

    private int upTo(int most) {
        return random.nextInt(40) == 0 ? ODD[random.nextInt(ODD.length)] : random.nextInt(most + 1);
    }

    private int number() {
        return random.nextInt(3) == 0 ? upTo(59) : upTo(8);
    }

    private long argument() {
        return random.nextInt(12) == 0 ? FAR[random.nextInt(FAR.length)] : random.nextInt(12) - 1;
    }

    private int which() {
        int at = random.nextInt(105);
        for (int n = 0; n < WEIGHTS.length; n++) {
            at -= WEIGHTS[n];
            if (at < 0) {
                return n;
            }
        }
        return 0;
    }

    private boolean same(String call, long want, long got) {
        trace.add(call + " = " + got + (want == got ? "" : ", due is " + want));
        return want == got;
    }

    private boolean same(String call, boolean want, boolean got) {
        return same(call, want ? 1 : 0, got ? 1 : 0);
    }

    private boolean step() {
        switch (which()) {
            case 0: return stepMake();
            case 1: {
                int a = number();
                return same("drop(" + a + ")", model.drop(a), x.drop(a));
            }
            case 2: {
                int a = upTo(8);
                return same("numbers(" + a + ")", model.numbers(a), x.numbers(a));
            }
            case 3: {
                int a = number();
                int b = upTo(3);
                return same("about(" + a + ", " + b + ")", model.about(a, b), x.about(a, b));
            }
            case 4: {
                int a = upTo(2);
                int b = random.nextInt(3) == 0 ? upTo(255) : 97 + random.nextInt(26);
                return same("collect(" + a + ", " + b + ")", model.collect(a, b), x.collect(a, b));
            }
            case 5: {
                int a = upTo(2);
                return same("collected(" + a + ")", model.collected(a), x.collected(a));
            }
            case 6: return stepDefine();
            case 7: {
                int a = upTo(11);
                long b = argument();
                return same("answer(" + a + ", " + b + ")", model.answer(a, b), x.answer(a, b));
            }
            case 8: {
                int a = upTo(11);
                int b = upTo(3);
                int c = upTo(3);
                return same("fails(" + a + ", " + b + ", " + c + ")", model.fails(a, b, c), x.fails(a, b, c));
            }
            case 9: return stepCall();
            default: return stepOfBuildsOrTold();
        }
    }

    private boolean stepMake() {
        int a = random.nextInt(4) == 0 ? upTo(8) : 3 + upTo(2);
        int b = number();
        return same("make(" + a + ", " + b + ")", model.make(a, b), x.make(a, b));
    }

    private boolean stepDefine() {
        int a = upTo(11);
        int b = random.nextInt(2) == 0 ? upTo(8) : 0;
        int c = upTo(3) - 1;
        long low = random.nextInt(4) == 0 ? argument() : 0;
        long high = random.nextInt(2) == 0 ? argument() : 9;
        return same("define(" + a + ", " + b + ", " + c + ", " + low + ", " + high + ")",
            model.define(a, b, c, low, high), x.define(a, b, c, low, high));
    }

    private boolean stepCall() {
        int a = upTo(11);
        int b = random.nextInt(2) == 0 ? 0 : number();
        long c = argument();
        long got = x.call(a, b, c);
        callAnswers.add(x.told(0, 0) == 0 ? 0 : got);
        return same("call(" + a + ", " + b + ", " + c + ")", model.call(a, b, c), got);
    }

    private boolean stepOfBuildsOrTold() {
        int house = random.nextInt(3) == 0 ? number() : 0;
        int small = upTo(4);
        int i = random.nextInt(2) == 0 ? upTo(41) : upTo(3);
        switch (random.nextInt(6)) {
            case 0: {
                int turns = upTo(10);
                return same("build(" + house + ", " + turns + ")", model.build(house, turns), x.build(house, turns));
            }
            case 1: return same("turn(" + house + ")", model.turn(house), x.turn(house));
            case 2: return same("building(" + house + ", " + small + ")",
                model.building(house, small), x.building(house, small));
            case 3: return same("told(" + i + ", " + small + ")", model.told(i, small), x.told(i, small));
            case 4: return same("value(" + i + ")", model.value(i), x.value(i));
            default: return same("count(" + small + ")", model.count(small), x.count(small));
        }
    }
}
