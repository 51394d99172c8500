/** Promises 15 to 17: told, value, count; and what 'Terms' says of TOLD. */
public final class ToldTest {
    private static final Due DUE = new Due();
    private static final int NONE = BuildCounter.NONE;
    private static final int[] FAR_NUMBERS = {-1, 60, Integer.MIN_VALUE, Integer.MAX_VALUE};

    public static void main(String[] args) {
        whatIsTold();
        theRows();
        asking();
        counting();
        DUE.test("The constants: NONE = -1", () -> DUE.is("NONE", -1, BuildCounter.NONE));
        DUE.test("What it is: used for at most 512 calls, all of them right", ToldTest::fiveHundredAndTwelve);
        DUE.end();
    }

    private static void whatIsTold() {
        DUE.test("Terms: TOLD for each CALL from outside", ToldTest::callsFromOutside);
        DUE.test("Terms: TOLD for each that GOES in a TURN", ToldTest::callsInATurn);
        DUE.test("Terms: TOLD for each that GOES behind a BUILD", ToldTest::callsBehindABuild);
        DUE.test("Terms: TOLD for nothing else", ToldTest::nothingElse);
        DUE.test("Terms: 0 it answered", ToldTest::answered);
        DUE.test("Terms: 1 to 3 it FAILED by this SORT", ToldTest::failed);
        DUE.test("Terms: 4 REFUSED", ToldTest::refused);
        DUE.test("Terms: 5 it WAITS", ToldTest::waits);
        DUE.test("Terms: the thing's number as it was given", ToldTest::numbersAsGiven);
        DUE.test("Terms: the CALL's as it was given", ToldTest::callsAsGiven);
        DUE.test("Terms: 0 for one that FAILED in a TURN", ToldTest::failedInATurn);
        DUE.test("Terms: 0 for one that FAILED behind a BUILD", ToldTest::failedBehindABuild);
        DUE.test("Terms: what is TOLD stays as it was", ToldTest::toldStays);
    }

    private static void theRows() {
        DUE.test("Terms: a row of the latest 40, with fewer", ToldTest::fewerThanForty);
        DUE.test("Terms: a row of the latest 40, with 40", ToldTest::justForty);
        DUE.test("Terms: a row of the latest 40, with 41", ToldTest::fortyOne);
        DUE.test("Terms: a row of the latest 40, round and round", ToldTest::farMoreThanForty);
        DUE.test("Terms: the latest 40, with more in one TURN", ToldTest::moreInOneTurn);
        DUE.test("Terms: the latest one first", ToldTest::latestFirst);
    }

    private static void asking() {
        DUE.test("15: of TOLD number i (0 the latest): 0, 1, 2", ToldTest::toldRows);
        DUE.test("15: NONE if there is none such (too small)", ToldTest::toldTooSmall);
        DUE.test("15: NONE if there is none such (too large)", ToldTest::toldTooLarge);
        DUE.test("15: NONE if there is none such (nothing TOLD)", ToldTest::toldOfNothing);
        DUE.test("15: NONE for another what (too small)", () -> toldOfAnotherWhat(-1, -2, Integer.MIN_VALUE));
        DUE.test("15: NONE for another what (too large)", () -> toldOfAnotherWhat(3, 4, Integer.MAX_VALUE));
        DUE.test("16: what TOLD number i answered", ToldTest::values);
        DUE.test("16: what it answered, of all sizes", ToldTest::valuesFarOff);
        DUE.test("16: 0 if there is none such (too small)", ToldTest::valueTooSmall);
        DUE.test("16: 0 if there is none such (too large)", ToldTest::valueTooLarge);
        DUE.test("16: 0 if there is none such (nothing TOLD)", ToldTest::valueOfNothing);
    }

    private static void counting() {
        DUE.test("17: how many were TOLD in all: what 0", ToldTest::countInAll);
        DUE.test("17: also those that are TOLD no more", ToldTest::countBeyondForty);
        DUE.test("17: that answered: 1", ToldTest::countAnswered);
        DUE.test("17: that FAILED: 2", ToldTest::countFailed);
        DUE.test("17: that were REFUSED: 3", ToldTest::countRefused);
        DUE.test("17: that came to WAIT: 4", ToldTest::countWaiting);
        DUE.test("17: that came to WAIT, also when they went", ToldTest::countWaitedOnce);
        DUE.test("17: with nothing TOLD", () -> DUE.counts(new BuildCounter(), 0, 0, 0, 0, 0));
        DUE.test("17: NONE for others (too small)", () -> countOfOthers(-1, -2, Integer.MIN_VALUE));
        DUE.test("17: NONE for others (too large)", () -> countOfOthers(5, 6, Integer.MAX_VALUE));
    }

    /** HOUSE 0, and CALL 0 for HOUSES, with arguments 0 to 1000, that was called with 1, 2, .. */
    private static BuildCounter called(int times) {
        BuildCounter x = Scene.houses(1);
        x.define(0, 0, NONE, 0, 1000);
        for (int n = 1; n <= times; n++) {
            x.call(0, 0, n);
        }
        return x;
    }

    private static void callsFromOutside() {
        BuildCounter x = called(1);
        DUE.is("count(0)", 1, x.count(0));
        x.call(0, 0, -1);
        DUE.is("count(0)", 2, x.count(0));
        x.fails(0, 1, 1);
        x.call(0, 0, 1);
        DUE.is("count(0)", 3, x.count(0));
        x.define(0, 0, 0, 0, 1000);
        x.build(0, 1);
        x.collect(0, 97);
        x.call(0, 0, 1);
        DUE.is("count(0)", 4, x.count(0));
    }

    private static void callsInATurn() {
        BuildCounter x = Scene.works();
        x.define(0, 4, NONE, 0, 9);
        x.define(1, 5, NONE, 0, 9);
        x.fails(1, 2, 1);
        x.build(0, 1);
        x.turn(0);
        DUE.told(x, 2, 2, 3, 1, 0);
        DUE.told(x, 1, 0, 4, 0, 1);
        DUE.told(x, 0, 0, 6, 0, 1);
        DUE.notTold(x, 3);
    }

    private static void callsBehindABuild() {
        BuildCounter x = Scene.waiting(2);
        x.fails(0, 2, 1);
        x.turn(0);
        x.turn(0);
        DUE.told(x, 3, 5, 0, 0, -5);
        DUE.told(x, 2, 5, 0, 0, -5);
        DUE.told(x, 1, 2, 0, 0, 0);
        DUE.told(x, 0, 0, 0, 0, 2);
        DUE.notTold(x, 4);
    }

    private static void nothingElse() {
        BuildCounter x = Scene.houses(1);
        x.make(9, 0);
        x.define(0, 0, NONE, 0, 9);
        x.define(12, 0, NONE, 0, 9);
        x.answer(0, 4);
        x.answer(3, 4);
        x.fails(0, 1, 1);
        x.fails(0, 4, 1);
        x.collect(0, 97);
        x.collect(0, 1);
        x.build(0, 1);
        x.build(0, 1);
        x.turn(0);
        x.turn(0);
        x.drop(0);
        x.drop(0);
        DUE.counts(x, 0, 0, 0, 0, 0);
        DUE.notTold(x, 0);
    }

    private static void answered() {
        BuildCounter x = Scene.houses(3);
        x.define(6, 0, NONE, -9, 9);
        for (int a = -9; a <= 9; a++) {
            x.call(6, 2, a);
            DUE.told(x, 0, 0, 2, 6, a);
        }
    }

    private static void failed() {
        for (int sort = 1; sort <= 3; sort++) {
            BuildCounter x = called(0);
            x.fails(0, sort, 1);
            x.call(0, 0, 7);
            DUE.told(x, 0, sort, 0, 0, -10 - sort);
        }
    }

    private static void refused() {
        BuildCounter x = Scene.waiting(6);
        x.call(0, 0, 0);
        DUE.told(x, 0, 4, 0, 0, -3);
        x.collect(2, 0);
        x.call(3, 0, 0);
        DUE.told(x, 0, 4, 0, 3, -1);
        x.call(0, 0, 10);
        DUE.told(x, 0, 4, 0, 0, -2);
        x.call(0, 0, 0);
        DUE.told(x, 0, 4, 0, 0, -4);
    }

    private static void waits() {
        BuildCounter x = Scene.houses(3);
        x.define(8, 0, 2, 0, 9);
        x.build(2, 1);
        x.collect(2, 0);
        x.call(8, 2, 9);
        DUE.told(x, 0, 5, 2, 8, -5);
    }

    private static void numbersAsGiven() {
        BuildCounter x = called(0);
        for (int number : FAR_NUMBERS) {
            x.call(0, number, 0);
            DUE.told(x, 0, 4, number, 0, -1);
        }
    }

    private static void callsAsGiven() {
        BuildCounter x = called(0);
        for (int call : FAR_NUMBERS) {
            x.call(call, 0, 0);
            DUE.told(x, 0, 4, 0, call, -1);
        }
    }

    private static void failedInATurn() {
        for (int sort = 1; sort <= 3; sort++) {
            BuildCounter x = Scene.works();
            x.define(1, 5, NONE, 0, 9);
            x.answer(1, 50);
            x.fails(1, sort, 1);
            x.build(0, 1);
            x.turn(0);
            DUE.told(x, 0, sort, 3, 1, 0);
        }
    }

    private static void failedBehindABuild() {
        for (int sort = 1; sort <= 3; sort++) {
            BuildCounter x = Scene.waiting(1);
            x.answer(0, 50);
            x.fails(0, sort, 1);
            x.turn(0);
            x.turn(0);
            DUE.told(x, 0, sort, 0, 0, 0);
        }
    }

    private static void toldStays() {
        BuildCounter x = called(3);
        x.define(0, 1, 0, 5, 6);
        x.answer(0, 50);
        x.drop(0);
        for (int i = 0; i < 3; i++) {
            DUE.told(x, i, 0, 0, 0, 3 - i);
        }
    }

    private static void fewerThanForty() {
        for (int times : new int[] {1, 2, 38, 39}) {
            BuildCounter x = called(times);
            DUE.told(x, times - 1, 0, 0, 0, 1);
            DUE.notTold(x, times);
        }
    }

    private static void justForty() {
        BuildCounter x = called(40);
        DUE.told(x, 39, 0, 0, 0, 1);
        DUE.notTold(x, 40);
    }

    private static void fortyOne() {
        BuildCounter x = called(41);
        DUE.told(x, 0, 0, 0, 0, 41);
        DUE.told(x, 39, 0, 0, 0, 2);
        DUE.notTold(x, 40);
        DUE.notTold(x, 41);
    }

    private static void farMoreThanForty() {
        for (int times : new int[] {79, 80, 81, 119, 120, 121, 400}) {
            BuildCounter x = called(times);
            for (int i : new int[] {0, 1, 38, 39}) {
                DUE.told(x, i, 0, 0, 0, times - i);
            }
            DUE.notTold(x, 40);
        }
    }

    private static void moreInOneTurn() {
        BuildCounter x = Scene.of(new int[][] {{0, 0}, {1, 0}, {3, 1}});
        for (int n = 3; n < 60; n++) {
            x.make(4, 2);
        }
        x.define(0, 4, NONE, 0, 0);
        x.build(0, 1);
        x.turn(0);
        for (int i = 0; i < 40; i++) {
            DUE.told(x, i, 0, 59 - i, 0, 1);
        }
        DUE.notTold(x, 40);
    }

    private static void latestFirst() {
        BuildCounter x = called(0);
        for (int n = 1; n <= 95; n++) {
            x.call(0, 0, n);
            DUE.is("value(0)", n, x.value(0));
        }
        for (int i = 0; i < 40; i++) {
            DUE.told(x, i, 0, 0, 0, 95 - i);
        }
    }

    private static void toldRows() {
        BuildCounter x = Scene.oneOfEach();
        x.define(5, 1, NONE, 0, 9);
        x.call(5, 1, 3);
        x.call(4, 8, 3);
        DUE.is("told(1, 0)", 0, x.told(1, 0));
        DUE.is("told(1, 1)", 1, x.told(1, 1));
        DUE.is("told(1, 2)", 5, x.told(1, 2));
        DUE.is("told(0, 0)", 4, x.told(0, 0));
        DUE.is("told(0, 1)", 8, x.told(0, 1));
        DUE.is("told(0, 2)", 4, x.told(0, 2));
    }

    private static void toldTooSmall() {
        for (int times : new int[] {1, 40, 50}) {
            BuildCounter x = called(times);
            for (int what = 0; what < 3; what++) {
                DUE.is("told(-1, " + what + ")", NONE, x.told(-1, what));
                DUE.is("told(MIN, " + what + ")", NONE, x.told(Integer.MIN_VALUE, what));
            }
        }
    }

    private static void toldTooLarge() {
        for (int times : new int[] {1, 39, 40, 41, 100}) {
            BuildCounter x = called(times);
            for (int what = 0; what < 3; what++) {
                for (int i = Math.min(times, 40); i <= times; i++) {
                    DUE.is("told(" + i + ", " + what + ")", NONE, x.told(i, what));
                }
                DUE.is("told(MAX, " + what + ")", NONE, x.told(Integer.MAX_VALUE, what));
            }
        }
    }

    private static void toldOfNothing() {
        BuildCounter x = called(0);
        for (int what = 0; what < 3; what++) {
            DUE.is("told(0, " + what + ")", NONE, x.told(0, what));
            DUE.is("told(39, " + what + ")", NONE, x.told(39, what));
        }
    }

    private static void toldOfAnotherWhat(int... wrong) {
        BuildCounter x = called(2);
        for (int what : wrong) {
            DUE.is("told(0, " + what + ")", NONE, x.told(0, what));
            DUE.is("told(1, " + what + ")", NONE, x.told(1, what));
        }
    }

    private static void values() {
        BuildCounter x = called(3);
        DUE.is("value(0)", 3, x.value(0));
        DUE.is("value(1)", 2, x.value(1));
        DUE.is("value(2)", 1, x.value(2));
        x.call(0, 0, 1001);
        DUE.is("value(0)", -2, x.value(0));
        DUE.is("value(3)", 1, x.value(3));
    }

    private static void valuesFarOff() {
        BuildCounter x = Scene.houses(1);
        x.define(0, 0, NONE, Long.MIN_VALUE, Long.MAX_VALUE);
        for (long a : new long[] {Long.MIN_VALUE, Long.MAX_VALUE, 1L << 32, -(1L << 32), 0}) {
            x.call(0, 0, a);
            DUE.is("value(0)", a, x.value(0));
        }
    }

    private static void valueTooSmall() {
        for (int times : new int[] {1, 40, 50}) {
            DUE.is("value(-1)", 0, called(times).value(-1));
            DUE.is("value(MIN)", 0, called(times).value(Integer.MIN_VALUE));
        }
    }

    private static void valueTooLarge() {
        for (int times : new int[] {1, 39, 40, 41, 100}) {
            BuildCounter x = called(times);
            for (int i = Math.min(times, 40); i <= times; i++) {
                DUE.is("value(" + i + ")", 0, x.value(i));
            }
            DUE.is("value(MAX)", 0, x.value(Integer.MAX_VALUE));
        }
    }

    private static void valueOfNothing() {
        BuildCounter x = called(0);
        DUE.is("value(0)", 0, x.value(0));
        DUE.is("value(39)", 0, x.value(39));
    }

    private static void countInAll() {
        for (int times : new int[] {0, 1, 39, 40}) {
            DUE.is("count(0)", times, called(times).count(0));
        }
    }

    private static void countBeyondForty() {
        DUE.counts(called(41), 41, 41, 0, 0, 0);
        BuildCounter x = Scene.houses(1);
        x.define(0, 0, NONE, 0, 9);
        x.fails(0, 1, 9);
        for (int n = 0; n < 100; n++) {
            x.call(0, 0, n % 2 == 0 ? 5 : 10);
        }
        DUE.counts(x, 100, 41, 9, 50, 0);
    }

    private static void countAnswered() {
        BuildCounter x = Scene.waiting(2);
        x.define(1, 0, NONE, 0, 9);
        x.call(1, 0, 0);
        DUE.is("count(1)", 1, x.count(1));
        x.turn(0);
        x.turn(0);
        DUE.is("count(1)", 3, x.count(1));
        BuildCounter y = Scene.works();
        y.define(0, 4, NONE, 0, 9);
        y.build(0, 1);
        y.turn(0);
        DUE.is("count(1)", 2, y.count(1));
    }

    private static void countFailed() {
        BuildCounter x = Scene.works();
        x.define(0, 5, 2, 0, 9);
        for (int sort = 1; sort <= 3; sort++) {
            x.collect(2, 0);
            x.fails(0, sort, 1);
            x.call(0, 3, 0);
            DUE.is("count(2)", sort, x.count(2));
        }
        x.build(0, 1);
        x.call(0, 3, 0);
        x.fails(0, 1, 2);
        x.turn(0);
        DUE.counts(x, 6, 0, 5, 0, 1);
    }

    private static void countRefused() {
        BuildCounter x = Scene.waiting(6);
        x.call(0, 0, 0);
        x.collect(2, 0);
        x.call(3, 0, 0);
        x.call(0, 0, 10);
        x.call(0, 0, 0);
        DUE.counts(x, 10, 0, 0, 4, 6);
    }

    private static void countWaiting() {
        for (int n = 0; n <= 6; n++) {
            DUE.counts(Scene.waiting(n), n, 0, 0, 0, n);
        }
    }

    private static void countWaitedOnce() {
        BuildCounter x = Scene.waiting(6);
        x.turn(0);
        x.turn(0);
        DUE.counts(x, 12, 6, 0, 0, 6);
    }

    private static void countOfOthers(int... wrong) {
        BuildCounter x = called(3);
        for (int what : wrong) {
            DUE.is("count(" + what + ")", NONE, x.count(what));
        }
    }

    private static void fiveHundredAndTwelve() {
        BuildCounter x = called(508);
        DUE.is("count(0), the 511th call", 508, x.count(0));
        DUE.is("call(0, 0, 1000), the 512th call", 1000, x.call(0, 0, 1000));
    }
}
