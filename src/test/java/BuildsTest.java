/** Promises 12 to 14: build, turn, building. */
public final class BuildsTest {
    private static final Due DUE = new Due();
    private static final int NONE = BuildCounter.NONE;
    private static final int[] WRONG = {-1, 7, 59, 60, 61, Integer.MIN_VALUE, Integer.MAX_VALUE};

    public static void main(String[] args) {
        buildWithEachNumberOfTurns();
        buildOfWhatIsNoHouse();
        oneBuildAHouse();
        turnsGoByNumbers();
        turnsHaveNumbers();
        turnsAskForNoRangeAndNoSort();
        turnsTakeTheLeastCall();
        turnsFail();
        turnsOfOneHouseOnly();
        turnsMoveNext();
        turnOfWhatHasNone();
        thoseThatWaitGoInOrder();
        thoseThatWaitGoWithTheirCallsAsTheseAreThen();
        whatFailsBehindABuildIsGone();
        eachHouseHasItsOwnThatWait();
        buildingOfHouses();
        DUE.end();
    }

    /** 0 HOUSE, 1 TREE, 2 TARGET, 3 TEST, 4 ACTION, 5 TARGET, 6 ACTION. */
    private static BuildCounter aHouse() {
        BuildCounter x = new BuildCounter();
        int[][] rows = {{0, 0}, {1, 0}, {3, 1}, {5, 2}, {4, 2}, {3, 1}, {4, 5}};
        for (int[] row : rows) {
            x.make(row[0], row[1]);
        }
        return x;
    }

    private static void told(BuildCounter x, int i, int fate, int number, int call, long value) {
        DUE.is("told(" + i + ", 0)", fate, x.told(i, 0));
        DUE.is("told(" + i + ", 1)", number, x.told(i, 1));
        DUE.is("told(" + i + ", 2)", call, x.told(i, 2));
        DUE.is("value(" + i + ")", value, x.value(i));
    }

    private static void buildWithEachNumberOfTurns() {
        for (int turns = -2; turns < 13; turns++) {
            BuildCounter x = aHouse();
            boolean due = turns >= 1 && turns <= 9;
            DUE.is("build(0, " + turns + ")", due ? 1 : 0, x.build(0, turns) ? 1 : 0);
            DUE.is("building(0, 0)", due ? turns : 0, x.building(0, 0));
            for (int n = 1; due && n <= turns; n++) {
                DUE.is("turn(0)", 0, x.turn(0));
                DUE.is("building(0, 0)", turns - n, x.building(0, 0));
            }
            DUE.is("turn(0)", NONE, x.turn(0));
        }
        DUE.no("build(0, MIN)", aHouse().build(0, Integer.MIN_VALUE));
        DUE.no("build(0, MAX)", aHouse().build(0, Integer.MAX_VALUE));
    }

    private static void buildOfWhatIsNoHouse() {
        BuildCounter x = aHouse();
        for (int number = 1; number < 7; number++) {
            DUE.no("build(" + number + ", 1)", x.build(number, 1));
        }
        for (int wrong : WRONG) {
            DUE.no("build(" + wrong + ", 1)", x.build(wrong, 1));
        }
        x.drop(0);
        DUE.no("build(0, 1): it is gone", x.build(0, 1));
    }

    private static void oneBuildAHouse() {
        BuildCounter x = aHouse();
        x.make(0, 0);
        DUE.yes("build(0, 2)", x.build(0, 2));
        DUE.no("build(0, 5)", x.build(0, 5));
        DUE.is("building(0, 0)", 2, x.building(0, 0));
        DUE.yes("build(7, 1)", x.build(7, 1));
        x.turn(0);
        DUE.no("build(0, 5)", x.build(0, 5));
        x.turn(0);
        DUE.yes("build(0, 5)", x.build(0, 5));
        DUE.is("building(0, 0)", 5, x.building(0, 0));
    }

    private static void turnsGoByNumbers() {
        BuildCounter x = aHouse();
        x.define(7, 4, NONE, 0, 9);
        x.define(9, 5, NONE, 0, 9);
        x.answer(7, 10);
        x.answer(7, 20);
        x.answer(7, 30);
        x.build(0, 2);
        DUE.is("turn(0)", 3, x.turn(0));
        told(x, 2, 0, 3, 9, 1);
        told(x, 1, 0, 4, 7, 11);
        told(x, 0, 0, 6, 7, 21);
        DUE.is("turn(0)", 3, x.turn(0));
        told(x, 2, 0, 3, 9, 2);
        told(x, 1, 0, 4, 7, 32);
        told(x, 0, 0, 6, 7, 12);
        DUE.is("count(0)", 6, x.count(0));
    }

    private static void turnsHaveNumbers() {
        BuildCounter x = aHouse();
        x.define(0, 5, NONE, 0, 0);
        for (int again = 0; again < 2; again++) {
            x.build(0, 9);
            for (int n = 1; n <= 9; n++) {
                DUE.is("turn(0)", 1, x.turn(0));
                told(x, 0, 0, 3, 0, n);
            }
        }
    }

    private static void turnsAskForNoRangeAndNoSort() {
        BuildCounter x = aHouse();
        x.define(0, 5, 1, 100, 200);
        x.collect(1, 97);
        x.build(0, 1);
        DUE.is("turn(0)", 1, x.turn(0));
        told(x, 0, 0, 3, 0, 1);
        DUE.is("collected(1): a TURN takes nothing", 1, x.collected(1));
    }

    private static void turnsTakeTheLeastCall() {
        BuildCounter x = aHouse();
        x.define(11, 5, NONE, 0, 0);
        x.build(0, 4);
        DUE.is("turn(0)", 1, x.turn(0));
        DUE.is("told(0, 2)", 11, x.told(0, 2));
        x.define(4, 5, NONE, 0, 0);
        x.define(3, 3, NONE, 0, 0);
        DUE.is("turn(0)", 1, x.turn(0));
        DUE.is("told(0, 2)", 4, x.told(0, 2));
        x.define(0, 5, NONE, 0, 0);
        DUE.is("turn(0)", 1, x.turn(0));
        DUE.is("told(0, 2)", 0, x.told(0, 2));
        x.define(0, 6, NONE, 0, 0);
        x.define(4, 0, NONE, 0, 0);
        DUE.is("turn(0)", 1, x.turn(0));
        DUE.is("told(0, 2)", 11, x.told(0, 2));
        DUE.is("count(0): no CALL for an ACTION", 4, x.count(0));
    }

    private static void turnsFail() {
        BuildCounter x = aHouse();
        x.define(0, 4, NONE, 0, 0);
        x.define(1, 5, NONE, 0, 0);
        x.fails(0, 2, 3);
        x.build(0, 2);
        DUE.is("turn(0)", 1, x.turn(0));
        told(x, 2, 0, 3, 1, 1);
        told(x, 1, 2, 4, 0, 0);
        told(x, 0, 2, 6, 0, 0);
        DUE.is("turn(0)", 2, x.turn(0));
        told(x, 1, 2, 4, 0, 0);
        told(x, 0, 0, 6, 0, 2);
        DUE.is("count(1)", 3, x.count(1));
        DUE.is("count(2)", 3, x.count(2));
    }

    private static void turnsOfOneHouseOnly() {
        BuildCounter x = aHouse();
        int[][] rows = {{0, 0}, {1, 7}, {3, 8}, {4, 9}};
        for (int[] row : rows) {
            x.make(row[0], row[1]);
        }
        x.drop(4);
        x.define(0, 4, NONE, 0, 0);
        x.build(0, 1);
        x.build(7, 2);
        DUE.is("turn(7)", 1, x.turn(7));
        told(x, 0, 0, 10, 0, 1);
        DUE.is("turn(0): 4 is gone", 1, x.turn(0));
        told(x, 0, 0, 6, 0, 1);
        DUE.is("turn(7)", 1, x.turn(7));
        told(x, 0, 0, 10, 0, 2);
        DUE.is("count(0)", 3, x.count(0));
    }

    private static void turnsMoveNext() {
        BuildCounter x = aHouse();
        x.define(0, 5, NONE, 0, 9);
        x.answer(0, 10);
        x.answer(0, 20);
        x.build(0, 1);
        x.turn(0);
        DUE.is("call(0, 3, 0)", 20, x.call(0, 3, 0));
    }

    private static void turnOfWhatHasNone() {
        BuildCounter x = aHouse();
        DUE.is("turn(0)", NONE, x.turn(0));
        x.build(0, 1);
        for (int number = 1; number < 7; number++) {
            DUE.is("turn(" + number + ")", NONE, x.turn(number));
        }
        for (int wrong : WRONG) {
            DUE.is("turn(" + wrong + ")", NONE, x.turn(wrong));
        }
        DUE.is("building(0, 0)", 1, x.building(0, 0));
        x.turn(0);
        x.drop(0);
        DUE.is("turn(0): it is gone", NONE, x.turn(0));
    }

    private static void thoseThatWaitGoInOrder() {
        BuildCounter x = aHouse();
        x.define(0, 0, 2, 0, 9);
        x.define(1, 1, 2, 0, 9);
        x.define(2, 5, NONE, 0, 9);
        x.answer(0, 100);
        x.answer(0, 200);
        x.build(0, 2);
        x.collect(2, 0);
        x.call(0, 0, 3);
        x.collect(2, 1);
        x.call(1, 1, 4);
        DUE.is("turn(0)", 1, x.turn(0));
        DUE.is("building(0, 1)", 2, x.building(0, 1));
        x.collect(2, 2);
        x.call(0, 0, 5);
        DUE.is("building(0, 1)", 3, x.building(0, 1));
        DUE.is("turn(0): without those that WAIT", 1, x.turn(0));
        told(x, 3, 0, 3, 2, 2);
        told(x, 2, 0, 0, 0, 104);
        told(x, 1, 0, 1, 1, 6);
        told(x, 0, 0, 0, 0, 208);
        DUE.is("building(0, 1)", 0, x.building(0, 1));
        DUE.is("count(0)", 8, x.count(0));
        DUE.is("count(1)", 5, x.count(1));
        DUE.is("count(4): they stay told", 3, x.count(4));
        x.build(0, 1);
        x.turn(0);
        DUE.is("count(0): they GO once", 9, x.count(0));
    }

    private static void thoseThatWaitGoWithTheirCallsAsTheseAreThen() {
        BuildCounter x = aHouse();
        x.define(0, 0, 2, 0, 9);
        x.answer(0, 100);
        x.build(0, 1);
        x.collect(2, 4);
        x.call(0, 0, 9);
        x.define(0, 1, 0, -2, -1);
        x.answer(0, 7000);
        x.collect(2, 9);
        DUE.is("turn(0)", 0, x.turn(0));
        told(x, 0, 0, 0, 0, 7014);
        DUE.is("collected(2): what is COLLECTED later stays", 1, x.collected(2));
    }

    private static void whatFailsBehindABuildIsGone() {
        BuildCounter x = aHouse();
        x.define(0, 0, 2, 0, 9);
        x.build(0, 1);
        x.collect(2, 4);
        x.call(0, 0, 9);
        x.collect(2, 5);
        x.call(0, 0, 8);
        x.fails(0, 3, 1);
        DUE.is("turn(0)", 0, x.turn(0));
        told(x, 1, 3, 0, 0, 0);
        told(x, 0, 0, 0, 0, 14);
        DUE.is("collected(2)", 0, x.collected(2));
        DUE.is("count(2)", 1, x.count(2));
        DUE.is("building(0, 1)", 0, x.building(0, 1));
    }

    private static void eachHouseHasItsOwnThatWait() {
        BuildCounter x = aHouse();
        x.make(0, 0);
        x.define(0, 0, 2, 0, 9);
        x.build(0, 1);
        x.build(7, 1);
        for (int n = 0; n < 6; n++) {
            x.collect(2, n);
            DUE.is("call(0, 0, " + n + ")", -5, x.call(0, 0, n));
        }
        x.collect(2, 6);
        DUE.is("call(0, 0, 6)", -4, x.call(0, 0, 6));
        DUE.is("call(0, 7, 6)", -5, x.call(0, 7, 6));
        DUE.is("building(0, 1)", 6, x.building(0, 1));
        DUE.is("building(7, 1)", 1, x.building(7, 1));
        x.turn(0);
        for (int n = 0; n < 6; n++) {
            told(x, 5 - n, 0, 0, 0, 2 * n + 1);
        }
        DUE.is("building(0, 1)", 0, x.building(0, 1));
        DUE.is("building(7, 1)", 1, x.building(7, 1));
        x.turn(7);
        told(x, 0, 0, 7, 0, 13);
    }

    private static void buildingOfHouses() {
        BuildCounter x = aHouse();
        DUE.is("building(0, 0)", 0, x.building(0, 0));
        DUE.is("building(0, 1)", 0, x.building(0, 1));
        for (int wrong : new int[] {-1, 2, 3, Integer.MIN_VALUE, Integer.MAX_VALUE}) {
            DUE.is("building(0, " + wrong + ")", NONE, x.building(0, wrong));
        }
        x.build(0, 3);
        for (int what = 0; what < 2; what++) {
            for (int number = 1; number < 7; number++) {
                DUE.is("building(" + number + ", " + what + ")", NONE, x.building(number, what));
            }
            for (int wrong : WRONG) {
                DUE.is("building(" + wrong + ", " + what + ")", NONE, x.building(wrong, what));
            }
        }
        DUE.is("building(0, 0)", 3, x.building(0, 0));
        BuildCounter y = aHouse();
        y.drop(0);
        DUE.is("building(0, 0): it is gone", NONE, y.building(0, 0));
    }
}
