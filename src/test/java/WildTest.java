import java.util.Random;

/** No call throws or fails to end, for any arguments in any state, and behind the 512th call too. */
public final class WildTest {
    private static final int RUNS = 200;
    private static final int CALLS_A_RUN = 5000;
    private static final int[] EDGES = {
        Integer.MIN_VALUE, Integer.MIN_VALUE + 1, -2, -1, 9, 12, 39, 40, 41, 59, 60, 61,
        Integer.MAX_VALUE - 1, Integer.MAX_VALUE};
    private static final long[] FAR = {Long.MIN_VALUE, -1, 0, 1, Long.MAX_VALUE};

    private final Random random;
    private final BuildCounter x = new BuildCounter();

    private WildTest(long seed) {
        random = new Random(seed);
    }

    public static void main(String[] args) {
        int wrong = 0;
        for (int run = 0; run < RUNS; run++) {
            WildTest test = new WildTest(run);
            for (int n = 0; n < CALLS_A_RUN; n++) {
                int which = test.random.nextInt(16);
                try {
                    test.step(which);
                } catch (RuntimeException e) {
                    wrong++;
                    System.out.println("run " + run + ", call " + n + ", method " + which + " threw " + e);
                }
            }
        }
        System.out.println(RUNS + " runs, " + wrong + " calls threw");
        if (wrong != 0) {
            System.exit(1);
        }
    }

    private int any() {
        switch (random.nextInt(8)) {
            case 0: return EDGES[random.nextInt(EDGES.length)];
            case 1: return random.nextInt();
            case 2: return random.nextInt(128);
            default: return random.nextInt(10);
        }
    }

    private long far() {
        return random.nextBoolean() ? FAR[random.nextInt(FAR.length)] : any();
    }

    private void step(int which) {
        switch (which) {
            case 0: x.make(any(), any()); break;
            case 1: if (random.nextInt(20) == 0) { x.drop(any()); } break;
            case 2: x.numbers(any()); break;
            case 3: x.about(any(), any()); break;
            case 4: x.collect(any(), any()); break;
            case 5: x.collected(any()); break;
            case 6: x.define(any(), any(), random.nextInt(5) - 2, far(), far()); break;
            case 7: x.answer(any(), far()); break;
            case 8: x.fails(any(), any(), any()); break;
            case 9: x.call(any(), any(), far()); break;
            case 10: x.build(any(), any()); break;
            case 11: x.turn(any()); break;
            case 12: x.building(any(), any()); break;
            case 13: x.told(any(), any()); break;
            case 14: x.value(any()); break;
            default: x.count(any()); break;
        }
    }
}
