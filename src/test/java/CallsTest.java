/** Promises 8 to 10: define, answer, fails; and what 'Terms' says of CALLS and how one GOES. */
public final class CallsTest {
    private static final Due DUE = new Due();
    private static final int NONE = BuildCounter.NONE;
    private static final long MIN = Long.MIN_VALUE;
    private static final long MAX = Long.MAX_VALUE;
    private static final int[] NO_CALLS_BELOW = {-1, -2, Integer.MIN_VALUE};
    private static final int[] NO_CALLS_ABOVE = {12, 13, Integer.MAX_VALUE};

    public static void main(String[] args) {
        defining();
        tables();
        failures();
        going();
        DUE.end();
    }

    private static void defining() {
        DUE.test("8: a CALL (0 .. 11) is DEFINED", CallsTest::defineEachCall);
        DUE.test("8: false if there is no such CALL (too small)", () -> defineNoCall(NO_CALLS_BELOW));
        DUE.test("8: false if there is no such CALL (too large)", () -> defineNoCall(NO_CALLS_ABOVE));
        DUE.test("8: for things of a KIND (0 .. 8)", CallsTest::defineForEachKind);
        DUE.test("8: false if there is no such KIND (too small)", () -> defineForNoKind(-1, -2, Integer.MIN_VALUE));
        DUE.test("8: false if there is no such KIND (too large)", () -> defineForNoKind(9, 10, Integer.MAX_VALUE));
        DUE.test("8: WANTING a SORT (0 .. 2)", CallsTest::defineWantingASort);
        DUE.test("8: WANTING nothing (NONE)", CallsTest::defineWantingNothing);
        DUE.test("8: false if there is no such SORT (too small)", () -> defineForNoSort(-2, -3, Integer.MIN_VALUE));
        DUE.test("8: false if there is no such SORT (too large)", () -> defineForNoSort(3, 4, Integer.MAX_VALUE));
        DUE.test("8: false if LOW is above HIGH", CallsTest::defineWithLowAboveHigh);
        DUE.test("8: LOW may be HIGH, or as far below as can be", CallsTest::defineWithLowNotAboveHigh);
        DUE.test("8: false, and it is what it was", CallsTest::falseDefineChangesNothing);
        DUE.test("8: in place of what it was (KIND, SORT, LOW, HIGH)", CallsTest::defineInPlace);
        DUE.test("8: an empty TABLE", CallsTest::defineEmptiesTheTable);
        DUE.test("8: an empty TABLE, its NEXT at first the first one", CallsTest::defineSetsNext);
        DUE.test("8: no FAILURES due", CallsTest::defineClearsFailures);
        DUE.test("8: a CALL is DEFINED, and no other", CallsTest::defineLeavesTheOthers);
    }

    private static void tables() {
        DUE.test("9: one more answer: how many (up to 5)", CallsTest::answerTellsHowMany);
        DUE.test("9: NONE if it has 5 (Terms: a TABLE of at most 5)", CallsTest::answerWithFive);
        DUE.test("9: NONE if it has 5, and the TABLE stays", CallsTest::sixthAnswerDoesNotCome);
        DUE.test("9: NONE if it isn't DEFINED", CallsTest::answerOfWhatIsNotDefined);
        DUE.test("9: NONE if there is no such CALL (too small)", () -> answerOfNoCall(NO_CALLS_BELOW));
        DUE.test("9: NONE if there is no such CALL (too large)", () -> answerOfNoCall(NO_CALLS_ABOVE));
        DUE.test("9: NEXT stays (with an empty TABLE)", CallsTest::nextStaysWhenEmpty);
        DUE.test("9: NEXT stays (behind the last one)", CallsTest::nextStaysBehindTheLast);
        DUE.test("9: NEXT stays (in the middle)", CallsTest::nextStaysInTheMiddle);
        DUE.test("9: any answer, the least and the greatest too", CallsTest::answersFarOff);
    }

    private static void failures() {
        DUE.test("10: of a SORT (1 .. 3)", CallsTest::failsOfEachSort);
        DUE.test("10: false if the SORT isn't so (too small)", () -> failsOfNoSort(0, -1, Integer.MIN_VALUE));
        DUE.test("10: false if the SORT isn't so (too large)", () -> failsOfNoSort(4, 5, Integer.MAX_VALUE));
        DUE.test("10: so many times (0 .. 9)", CallsTest::failsEachNumberOfTimes);
        DUE.test("10: 0 times: none are due", CallsTest::failsNoTimes);
        DUE.test("10: false if the times aren't so (too few)", () -> failsWrongTimes(-1, -2, Integer.MIN_VALUE));
        DUE.test("10: false if the times aren't so (too many)", () -> failsWrongTimes(10, 11, Integer.MAX_VALUE));
        DUE.test("10: false, and those stay that were", CallsTest::falseFailsChangesNothing);
        DUE.test("10: false if the CALL isn't DEFINED", CallsTest::failsOfWhatIsNotDefined);
        DUE.test("10: false if there is no such CALL (too small)", () -> failsOfNoCall(NO_CALLS_BELOW));
        DUE.test("10: false if there is no such CALL (too large)", () -> failsOfNoCall(NO_CALLS_ABOVE));
        DUE.test("10: in place of those that were (fewer, of another SORT)", CallsTest::failsInPlace);
        DUE.test("10: in place of those that were (more, of the same SORT)", CallsTest::failsInPlaceOfTheSame);
    }

    private static void going() {
        DUE.test("GOES: if FAILURES are due, one less is", CallsTest::oneFailureLess);
        DUE.test("GOES: the PART fails by their SORT", CallsTest::failsBySort);
        DUE.test("GOES: a FAILURE leaves NEXT", CallsTest::failureLeavesNext);
        DUE.test("GOES: w and the NEXT answer together", CallsTest::answersTogether);
        DUE.test("GOES: together, modulo 2 to the 64", CallsTest::answersWrapRound);
        DUE.test("GOES: w alone if the TABLE is empty", CallsTest::emptyTable);
        DUE.test("Terms: NEXT (at first the first one)", CallsTest::nextAtFirst);
        DUE.test("GOES: NEXT is the one behind that", CallsTest::nextGoesOn);
        DUE.test("GOES: behind the last one the first", CallsTest::nextGoesRound);
        DUE.test("GOES: a TABLE, NEXT and FAILURES are each CALL's own", CallsTest::eachCallsOwn);
        DUE.test("GOES: a CALL's NEXT is one for all things", CallsTest::oneForAllThings);
    }

    private static void define(BuildCounter x, boolean due, int call, int kind, int wants, long low, long high) {
        DUE.is("define(" + call + ", " + kind + ", " + wants + ", " + low + ", " + high + ")",
            due ? 1 : 0, x.define(call, kind, wants, low, high) ? 1 : 0);
    }

    private static void answer(BuildCounter x, int due, int call, long v) {
        DUE.is("answer(" + call + ", " + v + ")", due, x.answer(call, v));
    }

    private static void fails(BuildCounter x, boolean due, int call, int sort, int times) {
        DUE.is("fails(" + call + ", " + sort + ", " + times + ")", due ? 1 : 0, x.fails(call, sort, times) ? 1 : 0);
    }

    private static void call(BuildCounter x, long due, int call, int number, long a) {
        DUE.is("call(" + call + ", " + number + ", " + a + ")", due, x.call(call, number, a));
    }

    /** HOUSE 0, and CALL 0 for HOUSES with any argument and with these answers. */
    private static BuildCounter answering(long... answers) {
        BuildCounter x = Scene.houses(1);
        x.define(0, 0, NONE, MIN, MAX);
        for (long v : answers) {
            x.answer(0, v);
        }
        return x;
    }

    private static void defineEachCall() {
        BuildCounter x = Scene.houses(1);
        for (int call = 0; call < 12; call++) {
            define(x, true, call, 0, NONE, 0, 0);
            call(x, 0, call, 0, 0);
        }
    }

    private static void defineNoCall(int... calls) {
        BuildCounter x = Scene.houses(1);
        for (int call : calls) {
            define(x, false, call, 0, NONE, 0, 0);
            call(x, -1, call, 0, 0);
        }
    }

    private static void defineForEachKind() {
        BuildCounter x = Scene.oneOfEach();
        for (int number = 0; number < 9; number++) {
            define(x, true, 5, x.about(number, 0), NONE, 7, 7);
            call(x, 7, 5, number, 7);
        }
    }

    private static void defineForNoKind(int... kinds) {
        BuildCounter x = new BuildCounter();
        for (int kind : kinds) {
            define(x, false, 0, kind, NONE, 0, 0);
        }
        answer(x, NONE, 0, 1);
    }

    private static void defineWantingASort() {
        BuildCounter x = Scene.houses(1);
        for (int wants = 0; wants < 3; wants++) {
            define(x, true, 0, 0, wants, 0, 0);
            call(x, -3, 0, 0, 0);
            x.collect(wants, 97);
            call(x, 98, 0, 0, 0);
        }
    }

    private static void defineWantingNothing() {
        BuildCounter x = Scene.houses(1);
        define(x, true, 0, 0, NONE, 0, 0);
        call(x, 0, 0, 0, 0);
        x.collect(0, 97);
        x.collect(1, 97);
        x.collect(2, 97);
        call(x, 0, 0, 0, 0);
    }

    private static void defineForNoSort(int... sorts) {
        BuildCounter x = new BuildCounter();
        for (int wants : sorts) {
            define(x, false, 0, 0, wants, 0, 0);
        }
        answer(x, NONE, 0, 1);
    }

    private static void defineWithLowAboveHigh() {
        BuildCounter x = new BuildCounter();
        define(x, false, 0, 0, NONE, 1, 0);
        define(x, false, 0, 0, NONE, 0, -1);
        define(x, false, 0, 0, NONE, MAX, MAX - 1);
        define(x, false, 0, 0, NONE, MIN + 1, MIN);
        define(x, false, 0, 0, NONE, MAX, MIN);
        define(x, false, 0, 0, NONE, 1L << 32, 0);
        answer(x, NONE, 0, 1);
    }

    private static void defineWithLowNotAboveHigh() {
        BuildCounter x = new BuildCounter();
        define(x, true, 0, 0, NONE, 0, 0);
        define(x, true, 0, 0, NONE, -1, 0);
        define(x, true, 0, 0, NONE, MIN, MIN);
        define(x, true, 0, 0, NONE, MAX, MAX);
        define(x, true, 0, 0, NONE, MIN, MAX);
        define(x, true, 0, 0, NONE, 0, 1L << 32);
    }

    private static void falseDefineChangesNothing() {
        BuildCounter x = Scene.houses(1);
        x.define(0, 0, NONE, 0, 9);
        x.answer(0, 10);
        x.fails(0, 3, 1);
        define(x, false, 0, 9, NONE, 0, 9);
        define(x, false, 0, -1, NONE, 0, 9);
        define(x, false, 0, 0, 3, 0, 9);
        define(x, false, 0, 0, -2, 0, 9);
        define(x, false, 0, 0, NONE, 1, 0);
        define(x, false, 12, 0, NONE, 0, 0);
        call(x, -13, 0, 0, 9);
        call(x, 19, 0, 0, 9);
    }

    private static void defineInPlace() {
        BuildCounter x = Scene.oneOfEach();
        x.define(5, 0, 2, 0, 9);
        define(x, true, 5, 8, 0, 20, 30);
        x.collect(2, 0);
        call(x, -1, 5, 0, 25);
        call(x, -2, 5, 8, 9);
        call(x, -3, 5, 8, 20);
        define(x, true, 5, 8, NONE, 20, 30);
        call(x, 20, 5, 8, 20);
        call(x, 30, 5, 8, 30);
    }

    private static void defineEmptiesTheTable() {
        BuildCounter x = answering(10, 20, 30, 40, 50);
        define(x, true, 0, 0, NONE, 0, 9);
        call(x, 3, 0, 0, 3);
        call(x, 3, 0, 0, 3);
        answer(x, 1, 0, 70);
        call(x, 73, 0, 0, 3);
        call(x, 73, 0, 0, 3);
    }

    private static void defineSetsNext() {
        BuildCounter x = answering(10, 20, 30);
        call(x, 10, 0, 0, 0);
        call(x, 20, 0, 0, 0);
        define(x, true, 0, 0, NONE, 0, 9);
        x.answer(0, 1);
        x.answer(0, 2);
        x.answer(0, 3);
        call(x, 1, 0, 0, 0);
        call(x, 2, 0, 0, 0);
    }

    private static void defineClearsFailures() {
        BuildCounter x = answering();
        x.fails(0, 1, 9);
        define(x, true, 0, 0, NONE, 0, 9);
        call(x, 5, 0, 0, 5);
    }

    private static void defineLeavesTheOthers() {
        BuildCounter x = answering(10);
        x.fails(0, 2, 1);
        define(x, true, 1, 0, NONE, 3, 4);
        define(x, true, 11, 1, 0, 0, 0);
        call(x, -12, 0, 0, 9);
        call(x, 19, 0, 0, 9);
        answer(x, NONE, 2, 1);
    }

    private static void answerTellsHowMany() {
        for (int call = 0; call < 12; call++) {
            BuildCounter x = new BuildCounter();
            x.define(call, 0, NONE, 0, 0);
            for (int n = 1; n <= 5; n++) {
                answer(x, n, call, 7);
            }
        }
    }

    private static void answerWithFive() {
        BuildCounter x = answering(1, 2, 3, 4);
        answer(x, 5, 0, 5);
        answer(x, NONE, 0, 6);
        answer(x, NONE, 0, 7);
    }

    private static void sixthAnswerDoesNotCome() {
        BuildCounter x = answering(10, 20, 30, 40, 50);
        answer(x, NONE, 0, 60);
        for (int n = 0; n < 11; n++) {
            call(x, 10 * (n % 5 + 1), 0, 0, 0);
        }
    }

    private static void answerOfWhatIsNotDefined() {
        BuildCounter x = new BuildCounter();
        x.define(5, 0, NONE, 0, 0);
        for (int call = 0; call < 12; call++) {
            answer(x, call == 5 ? 1 : NONE, call, 1);
        }
    }

    private static void answerOfNoCall(int... calls) {
        BuildCounter x = new BuildCounter();
        x.define(0, 0, NONE, 0, 0);
        x.define(11, 0, NONE, 0, 0);
        for (int call : calls) {
            answer(x, NONE, call, 1);
        }
    }

    private static void nextStaysWhenEmpty() {
        BuildCounter x = answering();
        call(x, 0, 0, 0, 0);
        call(x, 0, 0, 0, 0);
        x.answer(0, 1);
        x.answer(0, 2);
        call(x, 1, 0, 0, 0);
        call(x, 2, 0, 0, 0);
    }

    private static void nextStaysBehindTheLast() {
        BuildCounter x = answering(1);
        call(x, 1, 0, 0, 0);
        x.answer(0, 2);
        call(x, 1, 0, 0, 0);
        call(x, 2, 0, 0, 0);
        x.answer(0, 3);
        call(x, 1, 0, 0, 0);
    }

    private static void nextStaysInTheMiddle() {
        BuildCounter x = answering(1, 2, 3);
        call(x, 1, 0, 0, 0);
        x.answer(0, 4);
        call(x, 2, 0, 0, 0);
        call(x, 3, 0, 0, 0);
        x.answer(0, 5);
        call(x, 4, 0, 0, 0);
        call(x, 5, 0, 0, 0);
        call(x, 1, 0, 0, 0);
    }

    private static void answersFarOff() {
        long[] far = {MIN, MAX, -1, 1L << 32, 0};
        BuildCounter x = answering(far);
        for (long v : far) {
            call(x, v, 0, 0, 0);
        }
    }

    private static void failsOfEachSort() {
        for (int sort = 1; sort <= 3; sort++) {
            fails(answering(), true, 0, sort, 1);
        }
    }

    private static void failsOfNoSort(int... sorts) {
        BuildCounter x = answering();
        for (int sort : sorts) {
            fails(x, false, 0, sort, 1);
            call(x, 4, 0, 0, 4);
        }
    }

    private static void failsEachNumberOfTimes() {
        for (int times = 0; times <= 9; times++) {
            BuildCounter x = answering();
            fails(x, true, 0, 2, times);
            for (int n = 0; n < times; n++) {
                call(x, -12, 0, 0, 4);
            }
            call(x, 4, 0, 0, 4);
        }
    }

    private static void failsNoTimes() {
        BuildCounter x = answering();
        x.fails(0, 3, 5);
        fails(x, true, 0, 1, 0);
        call(x, 4, 0, 0, 4);
    }

    private static void failsWrongTimes(int... wrong) {
        BuildCounter x = answering();
        for (int times : wrong) {
            fails(x, false, 0, 1, times);
            call(x, 4, 0, 0, 4);
        }
    }

    private static void falseFailsChangesNothing() {
        BuildCounter x = answering();
        x.fails(0, 2, 1);
        fails(x, false, 0, 4, 9);
        fails(x, false, 0, 0, 9);
        fails(x, false, 0, 3, 10);
        fails(x, false, 0, 3, -1);
        call(x, -12, 0, 0, 4);
        call(x, 4, 0, 0, 4);
    }

    private static void failsOfWhatIsNotDefined() {
        BuildCounter x = new BuildCounter();
        x.define(5, 0, NONE, 0, 0);
        for (int call = 0; call < 12; call++) {
            fails(x, call == 5, call, 1, 1);
        }
        x.define(6, 0, NONE, 0, 0);
        x.make(0, 0);
        call(x, 0, 6, 0, 0);
    }

    private static void failsOfNoCall(int... calls) {
        BuildCounter x = answering();
        x.define(11, 0, NONE, 0, 0);
        for (int call : calls) {
            fails(x, false, call, 1, 1);
        }
        call(x, 4, 0, 0, 4);
        call(x, 0, 11, 0, 0);
    }

    private static void failsInPlace() {
        BuildCounter x = answering();
        x.fails(0, 1, 9);
        fails(x, true, 0, 3, 1);
        call(x, -13, 0, 0, 4);
        call(x, 4, 0, 0, 4);
    }

    private static void failsInPlaceOfTheSame() {
        BuildCounter x = answering();
        x.fails(0, 1, 1);
        fails(x, true, 0, 1, 2);
        call(x, -11, 0, 0, 4);
        call(x, -11, 0, 0, 4);
        call(x, 4, 0, 0, 4);
    }

    private static void oneFailureLess() {
        BuildCounter x = answering(50);
        x.fails(0, 2, 9);
        for (int n = 0; n < 9; n++) {
            call(x, -12, 0, 0, 0);
        }
        call(x, 50, 0, 0, 0);
        call(x, 50, 0, 0, 0);
    }

    private static void failsBySort() {
        for (int sort = 1; sort <= 3; sort++) {
            BuildCounter x = answering();
            x.fails(0, sort, 1);
            call(x, -10 - sort, 0, 0, 0);
            DUE.is("told(0, 0)", sort, x.told(0, 0));
        }
    }

    private static void failureLeavesNext() {
        BuildCounter x = answering(1, 2);
        call(x, 1, 0, 0, 0);
        x.fails(0, 1, 1);
        call(x, -11, 0, 0, 0);
        call(x, 2, 0, 0, 0);
    }

    private static void answersTogether() {
        BuildCounter x = answering(100, -100);
        call(x, 105, 0, 0, 5);
        call(x, -95, 0, 0, 5);
        call(x, 95, 0, 0, -5);
        call(x, -105, 0, 0, -5);
    }

    private static void answersWrapRound() {
        BuildCounter x = answering(1, -1, MIN, MAX);
        call(x, MIN, 0, 0, MAX);
        call(x, MAX, 0, 0, MIN);
        call(x, 0, 0, 0, MIN);
        call(x, -2, 0, 0, MAX);
    }

    private static void emptyTable() {
        BuildCounter x = answering();
        for (long w : new long[] {0, 5, -5, MIN, MAX}) {
            call(x, w, 0, 0, w);
        }
    }

    private static void nextAtFirst() {
        call(answering(10), 10, 0, 0, 0);
        call(answering(10, 20), 10, 0, 0, 0);
        call(answering(10, 20, 30, 40, 50), 10, 0, 0, 0);
    }

    private static void nextGoesOn() {
        BuildCounter x = answering(10, 20, 30, 40, 50);
        for (int n = 1; n <= 5; n++) {
            call(x, 10 * n, 0, 0, 0);
        }
    }

    private static void nextGoesRound() {
        for (int size = 1; size <= 5; size++) {
            BuildCounter x = answering();
            for (int n = 0; n < size; n++) {
                x.answer(0, 10 * n);
            }
            for (int n = 0; n < 3 * size; n++) {
                call(x, 10 * (n % size), 0, 0, 0);
            }
        }
    }

    private static void eachCallsOwn() {
        BuildCounter x = answering(1, 2);
        x.define(1, 0, NONE, 0, 9);
        x.answer(1, 3);
        x.answer(1, 4);
        x.fails(0, 1, 1);
        call(x, 3, 1, 0, 0);
        call(x, -11, 0, 0, 0);
        call(x, 1, 0, 0, 0);
        call(x, 4, 1, 0, 0);
        call(x, 2, 0, 0, 0);
    }

    private static void oneForAllThings() {
        BuildCounter x = answering(1, 2, 3);
        x.make(0, 0);
        call(x, 1, 0, 0, 0);
        call(x, 2, 0, 1, 0);
        call(x, 3, 0, 0, 0);
    }
}
