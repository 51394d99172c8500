/** Holds answers against those that are due; each test bears the words of the document that it holds. */
final class Due {
    private String words = "";
    private int tests = 0;
    private int looked = 0;
    private int wrong = 0;

    /** One test: a sentence of the document, or a part of one, and the calls that would show it broken. */
    void test(String sentence, Runnable calls) {
        words = sentence;
        tests++;
        int before = looked;
        try {
            calls.run();
        } catch (RuntimeException e) {
            // BuildCounter never throws, so this is one more wrong answer and not the end of the other tests.
            fault("a call threw " + e);
        }
        if (looked == before) {
            fault("no answer was looked at");
        }
    }

    void is(String call, long want, long got) {
        looked++;
        if (want != got) {
            fault(call + " answered " + got + ", due is " + want);
        }
    }

    void yes(String call, boolean got) {
        is(call, 1, got ? 1 : 0);
    }

    void no(String call, boolean got) {
        is(call, 0, got ? 1 : 0);
    }

    /** The whole row of TOLD number i. */
    void told(BuildCounter x, int i, int fate, int number, int call, long value) {
        is("told(" + i + ", 0)", fate, x.told(i, 0));
        is("told(" + i + ", 1)", number, x.told(i, 1));
        is("told(" + i + ", 2)", call, x.told(i, 2));
        is("value(" + i + ")", value, x.value(i));
    }

    /** No row of TOLD stands there. */
    void notTold(BuildCounter x, int i) {
        told(x, i, BuildCounter.NONE, BuildCounter.NONE, BuildCounter.NONE, 0);
    }

    void counts(BuildCounter x, int inAll, int answered, int failed, int refused, int cameToWait) {
        int[] due = {inAll, answered, failed, refused, cameToWait};
        for (int what = 0; what < due.length; what++) {
            is("count(" + what + ")", due[what], x.count(what));
        }
    }

    void end() {
        System.out.println(tests + " tests, " + looked + " answers, " + wrong + " not as due");
        if (wrong != 0 || tests == 0) {
            System.exit(1);
        }
    }

    private void fault(String what) {
        wrong++;
        System.out.println("[" + words + "] " + what);
    }
}
