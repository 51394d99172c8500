/** Promises 8 to 11: define, answer, fails, call. */
public final class CallsTest {
    private static final Due DUE = new Due();
    private static final int NONE = BuildCounter.NONE;
    private static final long MIN = Long.MIN_VALUE;
    private static final long MAX = Long.MAX_VALUE;

    public static void main(String[] args) {
        defineWithEachArgument();
        defineInPlaceOfWhatItWas();
        aWrongDefineChangesNothing();
        answersOfATable();
        nextGoesRound();
        nextStaysWhenAnAnswerComes();
        failsWithEachArgument();
        failuresComeFirstAndEnd();
        failuresLeaveNext();
        refusedByTheFirstReason();
        refusedForWhatIsNotThere();
        theEdgesOfTheRange();
        whatIsWantedIsTaken();
        whatFailedIsCollectedAgain();
        answersWrapRound();
        callsThatWait();
        callsThatWantNothingGoUnderABuild();
        DUE.end();
    }

    private static BuildCounter withAHouse() {
        BuildCounter x = new BuildCounter();
        x.make(0, 0);
        return x;
    }

    private static void defineWithEachArgument() {
        BuildCounter x = new BuildCounter();
        for (int call = -2; call < 15; call++) {
            boolean due = call >= 0 && call <= 11;
            DUE.is("define(" + call + ", 0, NONE, 0, 0)", due ? 1 : 0, x.define(call, 0, NONE, 0, 0) ? 1 : 0);
        }
        for (int kind = -2; kind < 12; kind++) {
            boolean due = kind >= 0 && kind <= 8;
            DUE.is("define(0, " + kind + ", NONE, 0, 0)", due ? 1 : 0, x.define(0, kind, NONE, 0, 0) ? 1 : 0);
        }
        for (int wants = -3; wants < 6; wants++) {
            boolean due = wants >= -1 && wants <= 2;
            DUE.is("define(0, 0, " + wants + ", 0, 0)", due ? 1 : 0, x.define(0, 0, wants, 0, 0) ? 1 : 0);
        }
        for (int wrong : new int[] {Integer.MIN_VALUE, Integer.MAX_VALUE}) {
            DUE.no("define(" + wrong + ", 0, 0, 0, 0)", x.define(wrong, 0, 0, 0, 0));
            DUE.no("define(0, " + wrong + ", 0, 0, 0)", x.define(0, wrong, 0, 0, 0));
            DUE.no("define(0, 0, " + wrong + ", 0, 0)", x.define(0, 0, wrong, 0, 0));
        }
        DUE.yes("define(0, 0, 0, 5, 5)", x.define(0, 0, 0, 5, 5));
        DUE.no("define(0, 0, 0, 6, 5)", x.define(0, 0, 0, 6, 5));
        DUE.yes("define(0, 0, 0, MIN, MAX)", x.define(0, 0, 0, MIN, MAX));
        DUE.no("define(0, 0, 0, MAX, MIN)", x.define(0, 0, 0, MAX, MIN));
    }

    private static void defineInPlaceOfWhatItWas() {
        BuildCounter x = withAHouse();
        x.make(8, 0);
        x.define(5, 0, 2, 0, 9);
        x.answer(5, 10);
        x.answer(5, 20);
        x.collect(2, 0);
        DUE.is("call(5, 0, 1)", 12, x.call(5, 0, 1));
        x.fails(5, 1, 9);
        DUE.yes("define(5, 8, NONE, -9, -1)", x.define(5, 8, NONE, -9, -1));
        DUE.is("call(5, 0, -1): another KIND now", -1, x.call(5, 0, -1));
        DUE.is("call(5, 1, 1): another range now", -2, x.call(5, 1, 1));
        DUE.is("call(5, 1, -1): nothing wanted, no FAILURES, no TABLE", -1, x.call(5, 1, -1));
        DUE.is("count(1)", 2, x.count(1));
        DUE.is("answer(5, 7)", 1, x.answer(5, 7));
        DUE.is("answer(5, 8)", 2, x.answer(5, 8));
        DUE.is("call(5, 1, -1): NEXT is the first", 6, x.call(5, 1, -1));
        DUE.yes("fails(5, 2, 1)", x.fails(5, 2, 1));
        DUE.yes("define(5, 8, NONE, -9, -1)", x.define(5, 8, NONE, -9, -1));
        DUE.is("answer(5, 7)", 1, x.answer(5, 7));
        DUE.is("call(5, 1, -9)", -2, x.call(5, 1, -9));
        DUE.is("value(0)", -2, x.value(0));
        DUE.is("told(0, 0)", 0, x.told(0, 0));
    }

    private static void aWrongDefineChangesNothing() {
        BuildCounter x = withAHouse();
        x.define(0, 0, NONE, 0, 9);
        x.answer(0, 10);
        x.fails(0, 3, 1);
        DUE.no("define(0, 9, NONE, 0, 9)", x.define(0, 9, NONE, 0, 9));
        DUE.no("define(0, 0, 3, 0, 9)", x.define(0, 0, 3, 0, 9));
        DUE.no("define(0, 0, NONE, 1, 0)", x.define(0, 0, NONE, 1, 0));
        DUE.no("define(12, 0, NONE, 0, 0)", x.define(12, 0, NONE, 0, 0));
        DUE.is("call(0, 0, 9)", -13, x.call(0, 0, 9));
        DUE.is("call(0, 0, 9)", 19, x.call(0, 0, 9));
        DUE.no("define(3, 9, NONE, 0, 9)", x.define(3, 9, NONE, 0, 9));
        DUE.is("answer(3, 1): not DEFINED by that", NONE, x.answer(3, 1));
    }

    private static void answersOfATable() {
        BuildCounter x = new BuildCounter();
        DUE.is("answer(11, 1)", NONE, x.answer(11, 1));
        x.define(11, 0, NONE, 0, 0);
        for (int n = 1; n <= 5; n++) {
            DUE.is("answer(11, " + n + ")", n, x.answer(11, n));
        }
        DUE.is("answer(11, 6)", NONE, x.answer(11, 6));
        for (int wrong : new int[] {-1, 0, 10, 12, 13, Integer.MIN_VALUE, Integer.MAX_VALUE}) {
            DUE.is("answer(" + wrong + ", 1)", NONE, x.answer(wrong, 1));
        }
    }

    private static void nextGoesRound() {
        BuildCounter x = withAHouse();
        x.define(0, 0, NONE, 0, 1000);
        for (int n = 0; n < 6; n++) {
            x.answer(0, 10 * n);
        }
        for (int n = 0; n < 13; n++) {
            DUE.is("call(0, 0, 3) number " + n, 10 * (n % 5) + 3, x.call(0, 0, 3));
        }
        BuildCounter y = withAHouse();
        y.make(0, 0);
        y.define(0, 0, NONE, 0, 1000);
        y.define(1, 0, NONE, 0, 1000);
        y.answer(0, 1);
        y.answer(0, 2);
        y.answer(1, 3);
        y.answer(1, 4);
        DUE.is("call(0, 0, 0)", 1, y.call(0, 0, 0));
        DUE.is("call(1, 0, 0): NEXT is each CALL's own", 3, y.call(1, 0, 0));
        DUE.is("call(0, 1, 0): for all things", 2, y.call(0, 1, 0));
        DUE.is("call(1, 1, 0)", 4, y.call(1, 1, 0));
    }

    private static void nextStaysWhenAnAnswerComes() {
        BuildCounter x = withAHouse();
        x.define(0, 0, NONE, 0, 0);
        DUE.is("call(0, 0, 0): an empty TABLE", 0, x.call(0, 0, 0));
        DUE.is("call(0, 0, 0): an empty TABLE", 0, x.call(0, 0, 0));
        x.answer(0, 1);
        DUE.is("call(0, 0, 0)", 1, x.call(0, 0, 0));
        x.answer(0, 2);
        DUE.is("call(0, 0, 0): the first again", 1, x.call(0, 0, 0));
        x.answer(0, 3);
        DUE.is("call(0, 0, 0)", 2, x.call(0, 0, 0));
        DUE.is("call(0, 0, 0)", 3, x.call(0, 0, 0));
        x.answer(0, 4);
        DUE.is("call(0, 0, 0): the first again", 1, x.call(0, 0, 0));
    }

    private static void failsWithEachArgument() {
        BuildCounter x = new BuildCounter();
        x.define(2, 0, NONE, 0, 0);
        for (int sort = -1; sort < 6; sort++) {
            for (int times = -2; times < 12; times++) {
                boolean due = sort >= 1 && sort <= 3 && times >= 0 && times <= 9;
                DUE.is("fails(2, " + sort + ", " + times + ")", due ? 1 : 0, x.fails(2, sort, times) ? 1 : 0);
            }
        }
        for (int wrong : new int[] {Integer.MIN_VALUE, Integer.MAX_VALUE}) {
            DUE.no("fails(" + wrong + ", 1, 1)", x.fails(wrong, 1, 1));
            DUE.no("fails(2, " + wrong + ", 1)", x.fails(2, wrong, 1));
            DUE.no("fails(2, 1, " + wrong + ")", x.fails(2, 1, wrong));
        }
        for (int wrong : new int[] {-1, 0, 1, 3, 11, 12, 13}) {
            DUE.no("fails(" + wrong + ", 1, 1)", x.fails(wrong, 1, 1));
        }
    }

    private static void failuresComeFirstAndEnd() {
        for (int sort = 1; sort <= 3; sort++) {
            BuildCounter x = withAHouse();
            x.define(0, 0, NONE, 0, 0);
            x.answer(0, 50);
            DUE.yes("fails(0, " + sort + ", 9)", x.fails(0, sort, 9));
            for (int n = 0; n < 9; n++) {
                DUE.is("call(0, 0, 0) FAILED by " + sort, -10 - sort, x.call(0, 0, 0));
            }
            DUE.is("call(0, 0, 0) behind the FAILURES", 50, x.call(0, 0, 0));
        }
        BuildCounter x = withAHouse();
        x.define(0, 0, NONE, 0, 0);
        x.fails(0, 1, 9);
        x.fails(0, 2, 1);
        DUE.no("fails(0, 4, 9)", x.fails(0, 4, 9));
        DUE.no("fails(0, 3, 10)", x.fails(0, 3, 10));
        DUE.is("call(0, 0, 0): in place of those that were", -12, x.call(0, 0, 0));
        DUE.is("call(0, 0, 0)", 0, x.call(0, 0, 0));
        x.fails(0, 3, 5);
        x.fails(0, 1, 0);
        DUE.is("call(0, 0, 0): none are due", 0, x.call(0, 0, 0));
    }

    private static void failuresLeaveNext() {
        BuildCounter x = withAHouse();
        x.define(0, 0, NONE, 0, 0);
        x.answer(0, 1);
        x.answer(0, 2);
        DUE.is("call(0, 0, 0)", 1, x.call(0, 0, 0));
        x.fails(0, 1, 1);
        DUE.is("call(0, 0, 0)", -11, x.call(0, 0, 0));
        DUE.is("call(0, 0, 0)", 2, x.call(0, 0, 0));
    }

    private static void refusedByTheFirstReason() {
        BuildCounter x = withAHouse();
        x.make(1, 0);
        x.define(0, 0, 1, 0, 9);
        x.fails(0, 1, 1);
        DUE.is("call(1, 0, 10): not DEFINED", -1, x.call(1, 0, 10));
        DUE.is("call(0, 1, 10): another KIND before the range", -1, x.call(0, 1, 10));
        DUE.is("call(0, 0, 10): the range before what is wanted", -2, x.call(0, 0, 10));
        DUE.is("call(0, 0, 9): nothing COLLECTED", -3, x.call(0, 0, 9));
        x.collect(0, 97);
        x.collect(2, 97);
        DUE.is("call(0, 0, 9): nothing of that SORT", -3, x.call(0, 0, 9));
        x.build(0, 1);
        for (int n = 0; n < 6; n++) {
            x.collect(1, 97);
            DUE.is("call(0, 0, 0) WAITS", -5, x.call(0, 0, 0));
        }
        DUE.is("call(0, 0, 0): nothing COLLECTED before no room", -3, x.call(0, 0, 0));
        x.collect(1, 97);
        DUE.is("call(0, 0, 10): the range before no room", -2, x.call(0, 0, 10));
        DUE.is("call(0, 0, 0): 6 WAIT", -4, x.call(0, 0, 0));
        DUE.is("collected(1): what is REFUSED takes nothing", 1, x.collected(1));
        DUE.is("building(0, 1)", 6, x.building(0, 1));
        DUE.is("call(0, 1, 0): another KIND before no room", -1, x.call(0, 1, 0));
        x.turn(0);
        DUE.is("the FAILURE was left by those REFUSED", 1, x.told(5, 0));
        DUE.is("call(0, 0, 0): room again", 98, x.call(0, 0, 0));
    }

    private static void refusedForWhatIsNotThere() {
        BuildCounter x = withAHouse();
        x.make(0, 0);
        x.define(0, 0, NONE, MIN, MAX);
        for (int wrong : new int[] {-1, 12, 13, 1, Integer.MIN_VALUE, Integer.MAX_VALUE}) {
            DUE.is("call(" + wrong + ", 0, 0)", -1, x.call(wrong, 0, 0));
            DUE.is("told(0, 2)", wrong, x.told(0, 2));
        }
        for (int wrong : new int[] {-1, 2, 59, 60, 61, Integer.MIN_VALUE, Integer.MAX_VALUE}) {
            DUE.is("call(0, " + wrong + ", 0)", -1, x.call(0, wrong, 0));
            DUE.is("told(0, 1)", wrong, x.told(0, 1));
        }
        x.drop(1);
        DUE.is("call(0, 1, 0): it is gone", -1, x.call(0, 1, 0));
        DUE.is("count(3)", 14, x.count(3));
    }

    private static void theEdgesOfTheRange() {
        BuildCounter x = withAHouse();
        x.define(0, 0, NONE, -3, 4);
        DUE.is("call(0, 0, -4)", -2, x.call(0, 0, -4));
        DUE.is("call(0, 0, -3)", -3, x.call(0, 0, -3));
        DUE.is("told(0, 0)", 0, x.told(0, 0));
        DUE.is("call(0, 0, 4)", 4, x.call(0, 0, 4));
        DUE.is("call(0, 0, 5)", -2, x.call(0, 0, 5));
        DUE.is("call(0, 0, MIN)", -2, x.call(0, 0, MIN));
        DUE.is("call(0, 0, MAX)", -2, x.call(0, 0, MAX));
        DUE.is("call(0, 0, 2^32)", -2, x.call(0, 0, 1L << 32));
        x.define(0, 0, NONE, MIN, MIN);
        DUE.is("call(0, 0, MIN)", MIN, x.call(0, 0, MIN));
        x.define(0, 0, NONE, MAX, MAX);
        DUE.is("call(0, 0, MAX)", MAX, x.call(0, 0, MAX));
        DUE.is("call(0, 0, MAX - 1)", -2, x.call(0, 0, MAX - 1));
    }

    private static void whatIsWantedIsTaken() {
        for (int sort = 0; sort < 3; sort++) {
            BuildCounter x = withAHouse();
            x.define(0, 0, sort, 0, 9);
            x.answer(0, 1000);
            for (int other = 0; other < 3; other++) {
                x.collect(other, 97);
                x.collect(other, 98);
            }
            DUE.is("call(0, 0, 5)", 1005 + 31 * 98 + 99, x.call(0, 0, 5));
            for (int other = 0; other < 3; other++) {
                DUE.is("collected(" + other + ")", other == sort ? 0 : 2, x.collected(other));
            }
            DUE.is("call(0, 0, 5) without more", -3, x.call(0, 0, 5));
            DUE.is("collect(" + sort + ", 99)", 1, x.collect(sort, 99));
            DUE.is("call(0, 0, 5): the SUM began anew", 1105, x.call(0, 0, 5));
        }
        BuildCounter x = withAHouse();
        x.define(0, 0, NONE, 0, 9);
        x.collect(0, 97);
        DUE.is("call(0, 0, 5) wants nothing", 5, x.call(0, 0, 5));
        DUE.is("collected(0)", 1, x.collected(0));
    }

    private static void whatFailedIsCollectedAgain() {
        BuildCounter x = withAHouse();
        x.define(0, 0, 0, 0, 9);
        x.fails(0, 3, 2);
        x.collect(0, 97);
        x.collect(0, 98);
        DUE.is("call(0, 0, 0)", -13, x.call(0, 0, 0));
        DUE.is("collected(0)", 2, x.collected(0));
        DUE.is("collect(0, 99)", 3, x.collect(0, 99));
        DUE.is("call(0, 0, 0)", -13, x.call(0, 0, 0));
        DUE.is("call(0, 0, 0)", (31 * 98 + 99) * 31 + 100, x.call(0, 0, 0));
        DUE.is("collected(0)", 0, x.collected(0));
    }

    private static void answersWrapRound() {
        BuildCounter x = withAHouse();
        x.define(0, 0, 2, MIN, MAX);
        x.collect(2, 0);
        DUE.is("call(0, 0, MAX) and the SUM 1", MIN, x.call(0, 0, MAX));
        x.answer(0, MIN);
        x.collect(2, 0);
        DUE.is("call(0, 0, MIN), the SUM 1 and MIN", 1, x.call(0, 0, MIN));
        x.define(0, 0, NONE, MIN, MAX);
        x.answer(0, -1);
        DUE.is("call(0, 0, MIN) and -1", MAX, x.call(0, 0, MIN));
    }

    private static void callsThatWait() {
        BuildCounter x = withAHouse();
        x.make(0, 0);
        x.make(1, 0);
        x.define(0, 0, 2, 0, 9);
        x.define(1, 1, 2, 0, 9);
        x.answer(0, 100);
        x.fails(0, 1, 1);
        x.build(0, 1);
        x.collect(2, 4);
        DUE.is("call(1, 2, 0): the BUILD is that of its HOUSE", -5, x.call(1, 2, 0));
        DUE.is("collected(2): it was taken", 0, x.collected(2));
        x.collect(2, 5);
        DUE.is("call(0, 0, 0): it WAITS, no FAILURE yet", -5, x.call(0, 0, 0));
        DUE.is("building(0, 1)", 2, x.building(0, 1));
        x.collect(2, 6);
        DUE.is("call(0, 1, 0): another HOUSE without a BUILD", -11, x.call(0, 1, 0));
        DUE.is("call(0, 1, 0)", 107, x.call(0, 1, 0));
        DUE.is("building(1, 1)", 0, x.building(1, 1));
    }

    private static void callsThatWantNothingGoUnderABuild() {
        BuildCounter x = withAHouse();
        x.define(0, 0, NONE, 0, 9);
        x.define(1, 0, 2, 0, 9);
        x.build(0, 1);
        for (int n = 0; n < 6; n++) {
            x.collect(2, n);
            x.call(1, 0, 0);
        }
        DUE.is("building(0, 1)", 6, x.building(0, 1));
        DUE.is("call(0, 0, 7) with 6 that WAIT", 7, x.call(0, 0, 7));
        x.fails(0, 2, 1);
        DUE.is("call(0, 0, 7)", -12, x.call(0, 0, 7));
    }
}
