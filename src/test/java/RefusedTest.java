/** Promise 11: call; and what 'Terms' says of CALLS that are REFUSED, that WAIT, and of what they take. */
public final class RefusedTest {
    private static final Due DUE = new Due();
    private static final int NONE = BuildCounter.NONE;
    private static final long MIN = Long.MIN_VALUE;
    private static final long MAX = Long.MAX_VALUE;

    public static void main(String[] args) {
        refusals();
        orderOfRefusals();
        whatRefusedLeaves();
        taking();
        waiting();
        failing();
        DUE.end();
    }

    private static void refusals() {
        DUE.test("REFUSED -1: no such CALL is DEFINED (too small)", () -> callOfNoNumber(-1, -2, Integer.MIN_VALUE));
        DUE.test("REFUSED -1: no such CALL is DEFINED (too large)", () -> callOfNoNumber(12, 13, Integer.MAX_VALUE));
        DUE.test("REFUSED -1: no such CALL is DEFINED (not yet)", RefusedTest::callNotDefined);
        DUE.test("REFUSED -1: there is no such thing (no number of one)", RefusedTest::callForNoNumber);
        DUE.test("REFUSED -1: there is no such thing (not made yet)", RefusedTest::callForWhatIsNotMade);
        DUE.test("REFUSED -1: there is no such thing (gone)", RefusedTest::callForWhatIsGone);
        DUE.test("REFUSED -1: or of another KIND", RefusedTest::callForAnotherKind);
        DUE.test("REFUSED -2: the argument isn't LOW to HIGH (below LOW)", RefusedTest::argumentTooSmall);
        DUE.test("REFUSED -2: the argument isn't LOW to HIGH (above HIGH)", RefusedTest::argumentTooLarge);
        DUE.test("REFUSED -2: not LOW and HIGH themselves", RefusedTest::argumentAtTheEdges);
        DUE.test("REFUSED -2: LOW and HIGH of all sizes", RefusedTest::argumentsFarOff);
        DUE.test("REFUSED -3: nothing is COLLECTED of the SORT that it WANTS", RefusedTest::nothingCollected);
        DUE.test("REFUSED -3: of the SORT that it WANTS, not of others", RefusedTest::nothingOfThatSort);
        DUE.test("REFUSED -3: one is enough", RefusedTest::oneIsEnough);
        DUE.test("REFUSED -4: 6 WAIT there already", RefusedTest::sixWait);
        DUE.test("REFUSED -4: not with 5", RefusedTest::fiveWait);
        DUE.test("REFUSED -4: it WANTS one, not if it WANTS nothing", RefusedTest::sixWaitAndItWantsNothing);
        DUE.test("REFUSED -4: the thing's HOUSE has a BUILD, not another one", RefusedTest::sixWaitElsewhere);
        DUE.test("REFUSED -4: the thing's HOUSE, for what lies deep in it", RefusedTest::sixWaitForAThingDeepIn);
        DUE.test("REFUSED -4: no more when the BUILD is over", RefusedTest::sixWaitedOnce);
    }

    private static void orderOfRefusals() {
        DUE.test("REFUSED, by the first of these: -1 before -2", RefusedTest::kindBeforeRange);
        DUE.test("REFUSED, by the first of these: -1 before -3", RefusedTest::kindBeforeNothing);
        DUE.test("REFUSED, by the first of these: -1 before -4", RefusedTest::kindBeforeNoRoom);
        DUE.test("REFUSED, by the first of these: -2 before -3", RefusedTest::rangeBeforeNothing);
        DUE.test("REFUSED, by the first of these: -2 before -4", RefusedTest::rangeBeforeNoRoom);
        DUE.test("REFUSED, by the first of these: -3 before -4", RefusedTest::nothingBeforeNoRoom);
    }

    private static void whatRefusedLeaves() {
        DUE.test("REFUSED, otherwise it is taken: -1 takes nothing", RefusedTest::wrongKindTakesNothing);
        DUE.test("REFUSED, otherwise it is taken: -2 takes nothing", RefusedTest::wrongRangeTakesNothing);
        DUE.test("REFUSED, otherwise it is taken: -4 takes nothing", RefusedTest::noRoomTakesNothing);
        DUE.test("REFUSED, otherwise it GOES: no FAILURE is less", RefusedTest::refusedUsesNoFailure);
        DUE.test("REFUSED, otherwise it GOES: NEXT stays", RefusedTest::refusedLeavesNext);
        DUE.test("REFUSED, otherwise it WAITS: none more WAIT", RefusedTest::refusedDoesNotWait);
    }

    private static void taking() {
        DUE.test("11: what it WANTS is taken (nothing is COLLECTED of that then)", RefusedTest::wantedIsTaken);
        DUE.test("11: what it WANTS is taken, all of a full one", RefusedTest::fullOneIsTaken);
        DUE.test("11: what it WANTS, nothing of other SORTS", RefusedTest::othersAreNotTaken);
        DUE.test("11: nothing is taken if it WANTS nothing", RefusedTest::nothingIsTaken);
        DUE.test("11: w is the argument and the SUM together", RefusedTest::argumentAndSum);
        DUE.test("11: w is the argument alone if it WANTS nothing", RefusedTest::argumentAlone);
        DUE.test("11: w, modulo 2 to the 64", RefusedTest::argumentAndSumWrapRound);
        DUE.test("11: the answer, modulo 2 to the 64 twice", RefusedTest::sumAndAnswerWrapRound);
    }

    private static void waiting() {
        DUE.test("11: if it WANTS one and the HOUSE has a BUILD, it WAITS (-5)", RefusedTest::itWaits);
        DUE.test("11: the HOUSE has a BUILD, up to its last TURN", RefusedTest::waitsUpToTheLastTurn);
        DUE.test("11: what WAITS has taken what it WANTS", RefusedTest::waitingTakes);
        DUE.test("11: what WAITS doesn't GO yet (FAILURES)", RefusedTest::waitingUsesNoFailure);
        DUE.test("11: what WAITS doesn't GO yet (NEXT)", RefusedTest::waitingLeavesNext);
        DUE.test("11: else it GOES (it WANTS nothing)", RefusedTest::goesWantingNothing);
        DUE.test("11: else it GOES (another HOUSE has a BUILD)", RefusedTest::goesInAnotherHouse);
    }

    private static void failing() {
        DUE.test("11: if it FAILED, -10 less the SORT", RefusedTest::failedAnswers);
        DUE.test("11: if it FAILED, what was taken is COLLECTED again", RefusedTest::failedIsCollectedAgain);
        DUE.test("11: COLLECTED again, with its SUM", RefusedTest::failedKeepsTheSum);
        DUE.test("11: COLLECTED again, a full one", RefusedTest::failedFullOne);
        DUE.test("11: COLLECTED again, nothing if it WANTS nothing", RefusedTest::failedWantingNothing);
    }

    private static void call(BuildCounter x, long due, int call, int number, long a) {
        DUE.is("call(" + call + ", " + number + ", " + a + ")", due, x.call(call, number, a));
    }

    private static void collected(BuildCounter x, int due, int sort) {
        DUE.is("collected(" + sort + ")", due, x.collected(sort));
    }

    private static void answered(BuildCounter x) {
        DUE.is("told(0, 0)", 0, x.told(0, 0));
    }

    /** HOUSE 0, and CALL 0 for HOUSES that WANTS this, with arguments 0 to 9. */
    private static BuildCounter wanting(int sort) {
        BuildCounter x = Scene.houses(1);
        x.define(0, 0, sort, 0, 9);
        return x;
    }

    private static void callOfNoNumber(int... calls) {
        BuildCounter x = wanting(NONE);
        x.define(11, 0, NONE, 0, 9);
        for (int call : calls) {
            call(x, -1, call, 0, 0);
            DUE.told(x, 0, 4, 0, call, -1);
        }
    }

    private static void callNotDefined() {
        BuildCounter x = wanting(NONE);
        for (int call = 1; call < 12; call++) {
            call(x, -1, call, 0, 0);
            DUE.told(x, 0, 4, 0, call, -1);
        }
    }

    private static void callForNoNumber() {
        BuildCounter x = Scene.houses(60);
        x.define(0, 0, NONE, 0, 9);
        for (int number : Scene.NEVER_A_NUMBER) {
            call(x, -1, 0, number, 0);
            DUE.told(x, 0, 4, number, 0, -1);
        }
        call(x, 0, 0, 59, 0);
    }

    private static void callForWhatIsNotMade() {
        BuildCounter x = wanting(NONE);
        call(x, -1, 0, 1, 0);
        call(x, -1, 0, 59, 0);
        DUE.told(x, 0, 4, 59, 0, -1);
    }

    private static void callForWhatIsGone() {
        BuildCounter x = Scene.oneOfEach();
        x.define(0, 4, NONE, 0, 9);
        call(x, 9, 0, 3, 9);
        x.drop(1);
        call(x, -1, 0, 3, 9);
        DUE.told(x, 0, 4, 3, 0, -1);
    }

    private static void callForAnotherKind() {
        for (int kind = 0; kind < 9; kind++) {
            BuildCounter x = Scene.oneOfEach();
            x.define(0, kind, NONE, 0, 9);
            for (int number = 0; number < 9; number++) {
                call(x, x.about(number, 0) == kind ? 7 : -1, 0, number, 7);
            }
        }
    }

    private static void argumentTooSmall() {
        BuildCounter x = Scene.houses(1);
        x.define(0, 0, NONE, 5, 9);
        call(x, -2, 0, 0, 4);
        call(x, -2, 0, 0, 0);
        call(x, -2, 0, 0, -5);
        call(x, -2, 0, 0, MIN);
        DUE.told(x, 0, 4, 0, 0, -2);
    }

    private static void argumentTooLarge() {
        BuildCounter x = Scene.houses(1);
        x.define(0, 0, NONE, 5, 9);
        call(x, -2, 0, 0, 10);
        call(x, -2, 0, 0, (1L << 32) + 7);
        call(x, -2, 0, 0, MAX);
        DUE.told(x, 0, 4, 0, 0, -2);
    }

    private static void argumentAtTheEdges() {
        BuildCounter x = Scene.houses(1);
        x.define(0, 0, NONE, 5, 9);
        call(x, 5, 0, 0, 5);
        call(x, 9, 0, 0, 9);
        x.define(0, 0, NONE, 7, 7);
        call(x, -2, 0, 0, 6);
        call(x, 7, 0, 0, 7);
        call(x, -2, 0, 0, 8);
    }

    private static void argumentsFarOff() {
        BuildCounter x = Scene.houses(1);
        x.define(0, 0, NONE, MIN, MIN);
        call(x, MIN, 0, 0, MIN);
        call(x, -2, 0, 0, MIN + 1);
        call(x, -2, 0, 0, MAX);
        x.define(0, 0, NONE, MAX, MAX);
        call(x, MAX, 0, 0, MAX);
        call(x, -2, 0, 0, MAX - 1);
        call(x, -2, 0, 0, MIN);
        x.define(0, 0, NONE, -7, -6);
        call(x, -2, 0, 0, -8);
        call(x, -7, 0, 0, -7);
        call(x, -6, 0, 0, -6);
        call(x, -2, 0, 0, -5);
    }

    private static void nothingCollected() {
        for (int sort = 0; sort < 3; sort++) {
            BuildCounter x = wanting(sort);
            call(x, -3, 0, 0, 0);
            DUE.told(x, 0, 4, 0, 0, -3);
            x.collect(sort, 97);
            call(x, 98, 0, 0, 0);
            call(x, -3, 0, 0, 0);
        }
    }

    private static void nothingOfThatSort() {
        for (int sort = 0; sort < 3; sort++) {
            BuildCounter x = wanting(sort);
            x.collect((sort + 1) % 3, 97);
            x.collect((sort + 2) % 3, 97);
            call(x, -3, 0, 0, 0);
        }
    }

    private static void oneIsEnough() {
        for (int sort = 0; sort < 3; sort++) {
            BuildCounter x = wanting(sort);
            x.collect(sort, 97);
            call(x, 98, 0, 0, 0);
        }
    }

    private static void sixWait() {
        BuildCounter x = Scene.waiting(6);
        x.collect(2, 0);
        call(x, -4, 0, 0, 0);
        DUE.told(x, 0, 4, 0, 0, -4);
        call(x, -4, 0, 0, 9);
    }

    private static void fiveWait() {
        BuildCounter x = Scene.waiting(5);
        x.collect(2, 0);
        call(x, -5, 0, 0, 0);
        DUE.is("building(0, 1)", 6, x.building(0, 1));
    }

    private static void sixWaitAndItWantsNothing() {
        BuildCounter x = Scene.waiting(6);
        x.define(1, 0, NONE, 0, 9);
        x.collect(2, 0);
        call(x, 8, 1, 0, 8);
        DUE.is("building(0, 1)", 6, x.building(0, 1));
    }

    private static void sixWaitElsewhere() {
        BuildCounter x = Scene.waiting(6);
        x.collect(2, 0);
        call(x, 9, 0, 1, 8);
        x.build(1, 1);
        x.collect(2, 0);
        call(x, -5, 0, 1, 8);
    }

    private static void sixWaitForAThingDeepIn() {
        BuildCounter x = Scene.oneOfEach();
        x.define(0, 4, 2, 0, 9);
        x.define(1, 7, 2, 0, 9);
        x.build(0, 1);
        for (int n = 0; n < 6; n++) {
            x.collect(2, 0);
            call(x, -5, n % 2, n % 2 == 0 ? 3 : 6, 0);
        }
        x.collect(2, 0);
        call(x, -4, 0, 3, 0);
        call(x, -4, 1, 6, 0);
    }

    private static void sixWaitedOnce() {
        BuildCounter x = Scene.waiting(6);
        x.turn(0);
        x.collect(2, 0);
        call(x, -4, 0, 0, 8);
        x.turn(0);
        call(x, 9, 0, 0, 8);
        x.build(0, 1);
        for (int n = 0; n < 6; n++) {
            x.collect(2, 0);
            call(x, -5, 0, 0, n);
        }
        x.collect(2, 0);
        call(x, -4, 0, 0, 8);
    }

    private static void kindBeforeRange() {
        BuildCounter x = Scene.oneOfEach();
        x.define(0, 0, NONE, 0, 9);
        call(x, -1, 0, 1, 10);
        call(x, -1, 0, 9, 10);
        call(x, -1, 1, 0, 10);
    }

    private static void kindBeforeNothing() {
        BuildCounter x = Scene.oneOfEach();
        x.define(0, 0, 1, 0, 9);
        call(x, -1, 0, 1, 0);
        call(x, -1, 0, 9, 0);
    }

    private static void kindBeforeNoRoom() {
        BuildCounter x = Scene.waiting(6);
        x.define(1, 1, 2, 0, 9);
        x.collect(2, 0);
        call(x, -1, 1, 0, 0);
        call(x, -1, 2, 0, 0);
    }

    private static void rangeBeforeNothing() {
        BuildCounter x = wanting(1);
        call(x, -2, 0, 0, 10);
        call(x, -2, 0, 0, -1);
    }

    private static void rangeBeforeNoRoom() {
        BuildCounter x = Scene.waiting(6);
        x.collect(2, 0);
        call(x, -2, 0, 0, 10);
        call(x, -2, 0, 0, -1);
    }

    private static void nothingBeforeNoRoom() {
        call(Scene.waiting(6), -3, 0, 0, 0);
    }

    private static void wrongKindTakesNothing() {
        BuildCounter x = Scene.oneOfEach();
        x.define(0, 0, 2, 0, 9);
        x.collect(2, 5);
        call(x, -1, 0, 1, 0);
        call(x, -1, 0, 9, 0);
        collected(x, 1, 2);
        call(x, 6, 0, 0, 0);
    }

    private static void wrongRangeTakesNothing() {
        BuildCounter x = wanting(2);
        x.collect(2, 5);
        call(x, -2, 0, 0, 10);
        collected(x, 1, 2);
        call(x, 6, 0, 0, 0);
    }

    private static void noRoomTakesNothing() {
        BuildCounter x = Scene.waiting(6);
        x.collect(2, 5);
        call(x, -4, 0, 0, 0);
        collected(x, 1, 2);
        call(x, 6, 0, 1, 0);
    }

    private static void refusedUsesNoFailure() {
        BuildCounter x = wanting(2);
        x.fails(0, 1, 1);
        call(x, -1, 0, 1, 0);
        call(x, -2, 0, 0, 10);
        call(x, -3, 0, 0, 0);
        x.collect(2, 0);
        call(x, -11, 0, 0, 0);
        BuildCounter y = Scene.waiting(6);
        y.fails(0, 1, 1);
        y.collect(2, 0);
        call(y, -4, 0, 0, 0);
        call(y, -11, 0, 1, 0);
    }

    private static void refusedLeavesNext() {
        BuildCounter x = Scene.waiting(6);
        x.answer(0, 100);
        x.answer(0, 200);
        call(x, -3, 0, 0, 0);
        x.collect(2, 0);
        call(x, -1, 0, 2, 0);
        call(x, -2, 0, 0, 10);
        call(x, -4, 0, 0, 0);
        call(x, 101, 0, 1, 0);
    }

    private static void refusedDoesNotWait() {
        BuildCounter x = Scene.waiting(1);
        call(x, -1, 1, 0, 0);
        call(x, -2, 0, 0, 10);
        call(x, -3, 0, 0, 0);
        DUE.is("building(0, 1)", 1, x.building(0, 1));
        BuildCounter y = Scene.waiting(6);
        y.collect(2, 0);
        call(y, -4, 0, 0, 0);
        DUE.is("building(0, 1)", 6, y.building(0, 1));
    }

    private static void wantedIsTaken() {
        for (int sort = 0; sort < 3; sort++) {
            BuildCounter x = wanting(sort);
            x.collect(sort, 97);
            x.collect(sort, 98);
            call(x, 31 * 98 + 99, 0, 0, 0);
            collected(x, 0, sort);
            x.collect(sort, 99);
            call(x, 100, 0, 0, 0);
        }
    }

    private static void fullOneIsTaken() {
        for (int sort = 0; sort < 3; sort++) {
            BuildCounter x = wanting(sort);
            for (int n = 0; n < 31; n++) {
                x.collect(sort, 97);
            }
            x.call(0, 0, 0);
            answered(x);
            collected(x, 0, sort);
        }
    }

    private static void othersAreNotTaken() {
        for (int sort = 0; sort < 3; sort++) {
            BuildCounter x = wanting(sort);
            for (int other = 0; other < 3; other++) {
                x.collect(other, 97);
                x.collect(other, 98);
            }
            x.call(0, 0, 0);
            for (int other = 0; other < 3; other++) {
                collected(x, other == sort ? 0 : 2, other);
            }
        }
    }

    private static void nothingIsTaken() {
        BuildCounter x = wanting(NONE);
        for (int sort = 0; sort < 3; sort++) {
            x.collect(sort, 97);
        }
        x.call(0, 0, 5);
        for (int sort = 0; sort < 3; sort++) {
            collected(x, 1, sort);
        }
    }

    private static void argumentAndSum() {
        BuildCounter x = Scene.houses(1);
        x.define(0, 0, 2, -9, 9);
        x.collect(2, 5);
        call(x, 15, 0, 0, 9);
        x.collect(2, 5);
        call(x, -3, 0, 0, -9);
        answered(x);
    }

    private static void argumentAlone() {
        BuildCounter x = wanting(NONE);
        x.collect(0, 97);
        x.collect(1, 97);
        x.collect(2, 97);
        call(x, 9, 0, 0, 9);
        call(x, 0, 0, 0, 0);
    }

    private static void argumentAndSumWrapRound() {
        BuildCounter x = Scene.houses(1);
        x.define(0, 0, 2, MIN, MAX);
        x.collect(2, 0);
        call(x, MIN, 0, 0, MAX);
        x.collect(2, 255);
        call(x, MIN + 255, 0, 0, MAX);
        x.collect(2, 0);
        call(x, MIN + 1, 0, 0, MIN);
    }

    private static void sumAndAnswerWrapRound() {
        BuildCounter x = Scene.houses(1);
        x.define(0, 0, 2, MIN, MAX);
        x.answer(0, MIN);
        x.answer(0, MAX);
        x.collect(2, 0);
        call(x, 0, 0, 0, MAX);
        x.collect(2, 0);
        call(x, -1, 0, 0, MAX);
    }

    private static void itWaits() {
        for (int sort = 0; sort < 3; sort++) {
            BuildCounter x = wanting(sort);
            x.build(0, 1);
            x.collect(sort, 97);
            call(x, -5, 0, 0, 0);
            DUE.told(x, 0, 5, 0, 0, -5);
            DUE.is("building(0, 1)", 1, x.building(0, 1));
        }
    }

    private static void waitsUpToTheLastTurn() {
        BuildCounter x = wanting(2);
        x.build(0, 9);
        for (int n = 0; n < 8; n++) {
            x.turn(0);
        }
        x.collect(2, 0);
        call(x, -5, 0, 0, 0);
        x.turn(0);
        x.collect(2, 0);
        call(x, 1, 0, 0, 0);
    }

    private static void waitingTakes() {
        for (int sort = 0; sort < 3; sort++) {
            BuildCounter x = wanting(sort);
            x.build(0, 1);
            for (int other = 0; other < 3; other++) {
                x.collect(other, 97);
            }
            call(x, -5, 0, 0, 0);
            for (int other = 0; other < 3; other++) {
                collected(x, other == sort ? 0 : 1, other);
            }
        }
    }

    private static void waitingUsesNoFailure() {
        BuildCounter x = Scene.waiting(0);
        x.fails(0, 2, 1);
        x.collect(2, 0);
        call(x, -5, 0, 0, 0);
        x.collect(2, 0);
        call(x, -12, 0, 1, 0);
    }

    private static void waitingLeavesNext() {
        BuildCounter x = Scene.waiting(0);
        x.answer(0, 100);
        x.answer(0, 200);
        x.collect(2, 0);
        call(x, -5, 0, 0, 0);
        x.collect(2, 0);
        call(x, 101, 0, 1, 0);
    }

    private static void goesWantingNothing() {
        BuildCounter x = wanting(NONE);
        x.build(0, 1);
        call(x, 7, 0, 0, 7);
        x.fails(0, 2, 1);
        call(x, -12, 0, 0, 7);
        DUE.is("building(0, 1)", 0, x.building(0, 1));
    }

    private static void goesInAnotherHouse() {
        BuildCounter x = Scene.of(new int[][] {{0, 0}, {0, 0}, {1, 0}, {1, 1}});
        x.define(0, 1, 2, 0, 9);
        x.build(0, 1);
        x.collect(2, 0);
        call(x, 6, 0, 3, 5);
        x.collect(2, 0);
        call(x, -5, 0, 2, 5);
    }

    private static void failedAnswers() {
        for (int sort = 1; sort <= 3; sort++) {
            BuildCounter x = wanting(2);
            x.fails(0, sort, 1);
            x.collect(2, 0);
            call(x, -10 - sort, 0, 0, 9);
            DUE.told(x, 0, sort, 0, 0, -10 - sort);
        }
    }

    private static void failedIsCollectedAgain() {
        for (int sort = 0; sort < 3; sort++) {
            BuildCounter x = wanting(sort);
            x.fails(0, 3, 2);
            x.collect(sort, 97);
            x.collect(sort, 98);
            call(x, -13, 0, 0, 0);
            collected(x, 2, sort);
            call(x, -13, 0, 0, 0);
            collected(x, 2, sort);
            x.call(0, 0, 0);
            collected(x, 0, sort);
        }
    }

    private static void failedKeepsTheSum() {
        BuildCounter x = wanting(0);
        x.fails(0, 1, 1);
        x.collect(0, 97);
        x.collect(0, 98);
        call(x, -11, 0, 0, 0);
        x.collect(0, 99);
        call(x, (31 * 98 + 99) * 31 + 100, 0, 0, 0);
    }

    private static void failedFullOne() {
        int[] most = {30, 20, 20};
        for (int sort = 0; sort < 3; sort++) {
            BuildCounter x = wanting(sort);
            x.fails(0, 1, 1);
            for (int n = 0; n < most[sort]; n++) {
                x.collect(sort, 97);
            }
            call(x, -11, 0, 0, 0);
            collected(x, most[sort], sort);
            DUE.is("collect(" + sort + ", 97)", NONE, x.collect(sort, 97));
        }
    }

    private static void failedWantingNothing() {
        BuildCounter x = wanting(NONE);
        x.fails(0, 1, 1);
        x.collect(1, 97);
        call(x, -11, 0, 0, 0);
        collected(x, 0, 0);
        collected(x, 1, 1);
        collected(x, 0, 2);
    }
}
