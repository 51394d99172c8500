/** Promises 12 to 14: build, turn, building; and what 'Terms' says of BUILDS. */
public final class BuildsTest {
    private static final Due DUE = new Due();
    private static final int NONE = BuildCounter.NONE;
    private static final long MIN = Long.MIN_VALUE;
    private static final long MAX = Long.MAX_VALUE;

    public static void main(String[] args) {
        building();
        turns();
        whoGoesInATurn();
        behindABuild();
        asking();
        DUE.end();
    }

    private static void building() {
        DUE.test("12: a BUILD of so many TURNS (1 .. 9)", BuildsTest::buildOfEachLength);
        DUE.test("12: false if the TURNS aren't so (too few)", () -> buildOfWrongLength(0, -1, Integer.MIN_VALUE));
        DUE.test("12: false if the TURNS aren't so (too many)", () -> buildOfWrongLength(10, 11, Integer.MAX_VALUE));
        DUE.test("12: false if it is no HOUSE (of another KIND)", BuildsTest::buildOfAnotherKind);
        DUE.test("12: false if it is no HOUSE (no number of one)", BuildsTest::buildOfNoNumber);
        DUE.test("12: false if it is no HOUSE (not made yet)", BuildsTest::buildOfWhatIsNotMade);
        DUE.test("12: false if it is no HOUSE (gone)", BuildsTest::buildOfWhatIsGone);
        DUE.test("12: false if it has one", BuildsTest::buildTwice);
        DUE.test("12: false, and the BUILD stays what it was", BuildsTest::falseBuildChangesNothing);
        DUE.test("12: it has none when the last TURN was", BuildsTest::buildAgain);
        DUE.test("12: a HOUSE gets a BUILD, and no other", BuildsTest::buildOfOneHouse);
        DUE.test("12: all 60 HOUSES may have one", BuildsTest::buildOfSixtyHouses);
    }

    private static void turns() {
        DUE.test("13: how many CALLS answered in it", BuildsTest::turnTellsHowMany);
        DUE.test("13: how many answered, with none that GO", BuildsTest::turnOfAnEmptyHouse);
        DUE.test("13: how many answered, with all that can be", BuildsTest::turnOfAFullHouse);
        DUE.test("13: how many answered, not those that FAILED", BuildsTest::turnWithFailures);
        DUE.test("13: not those that GO behind the BUILD", BuildsTest::turnWithoutThoseThatWait);
        DUE.test("13: NONE if it is no HOUSE (of another KIND)", BuildsTest::turnOfAnotherKind);
        DUE.test("13: NONE if it is no HOUSE (no number of one)", BuildsTest::turnOfNoNumber);
        DUE.test("13: NONE if it is no HOUSE (not made yet, or gone)", BuildsTest::turnOfWhatIsNotThere);
        DUE.test("13: NONE if it has no BUILD (never had)", BuildsTest::turnWithoutABuild);
        DUE.test("13: NONE if it has no BUILD (it is over)", BuildsTest::turnBehindABuild);
        DUE.test("13: NONE if it has no BUILD, and nothing GOES", BuildsTest::noTurnAndNothingGoes);
    }

    private static void whoGoesInATurn() {
        DUE.test("Terms: each ACTION and TEST, by numbers", BuildsTest::goByNumbers);
        DUE.test("Terms: each ACTION and TEST, no other KIND", BuildsTest::otherKindsDoNotGo);
        DUE.test("Terms: of the HOUSE, not of another", BuildsTest::otherHousesDoNotGo);
        DUE.test("Terms: each that is there, not what is gone", BuildsTest::whatIsGoneDoesNotGo);
        DUE.test("Terms: the least CALL that is DEFINED for its KIND", BuildsTest::leastCall);
        DUE.test("Terms: the least CALL, from 0 to 11", BuildsTest::leastCallOfAll);
        DUE.test("Terms: the least CALL as they are DEFINED now", BuildsTest::leastCallNow);
        DUE.test("Terms: if there is one", BuildsTest::noCallForItsKind);
        DUE.test("Terms: GOES with the TURN's number (1, 2, ..)", BuildsTest::turnsHaveNumbers);
        DUE.test("Terms: the TURN's number, from 1 again in a new BUILD", BuildsTest::turnsBeginAnew);
        DUE.test("Terms: GOES, whatever LOW and HIGH are", BuildsTest::turnsAskForNoRange);
        DUE.test("Terms: GOES, whatever SORT it WANTS, and takes nothing", BuildsTest::turnsTakeNothing);
        DUE.test("Terms: GOES, with NEXT as in call()", BuildsTest::turnsMoveNext);
        DUE.test("Terms: GOES, with FAILURES as in call()", BuildsTest::turnsUseFailures);
        DUE.test("Terms: GOES, modulo 2 to the 64", BuildsTest::turnsWrapRound);
    }

    private static void behindABuild() {
        DUE.test("Terms: behind the last TURN the BUILD is over, not before", BuildsTest::overBehindTheLastTurn);
        DUE.test("Terms: those that WAIT GO, behind the TURN", BuildsTest::waitingGoBehindTheTurn);
        DUE.test("Terms: those that WAIT GO, none if none WAIT", BuildsTest::noneWait);
        DUE.test("Terms: those that WAIT GO, all 6", BuildsTest::sixWait);
        DUE.test("Terms: those that WAIT GO, not before the last TURN", BuildsTest::waitingDoNotGoBefore);
        DUE.test("Terms: those that WAIT GO, once", BuildsTest::waitingGoOnce);
        DUE.test("Terms: those that WAIT GO, in order", BuildsTest::waitingGoInOrder);
        DUE.test("Terms: those of the HOUSE, not of another", BuildsTest::eachHouseHasItsOwn);
        DUE.test("Terms: with the w that they came with, modulo 2 to the 64", BuildsTest::waitingKeepW);
        DUE.test("Terms: with their CALLS as these are then (TABLE)", BuildsTest::tableAsItIsThen);
        DUE.test("Terms: with their CALLS as these are then (FAILURES)", BuildsTest::failuresAsTheyAreThen);
        DUE.test("Terms: with their CALLS as these are then (DEFINED anew)", BuildsTest::definedAnew);
        DUE.test("Terms: what FAILED then is gone", BuildsTest::failedIsGone);
    }

    private static void asking() {
        DUE.test("14: 0 how many TURNS its BUILD has still", BuildsTest::turnsStill);
        DUE.test("14: 0 is 0 without one", BuildsTest::noTurnsWithoutABuild);
        DUE.test("14: 1 how many WAIT (0 to 6)", BuildsTest::howManyWait);
        DUE.test("14: 1 is 0 behind the BUILD", BuildsTest::noneWaitBehindABuild);
        DUE.test("14: NONE if it is no HOUSE (of another KIND)", BuildsTest::buildingOfAnotherKind);
        DUE.test("14: NONE if it is no HOUSE (no number of one)", BuildsTest::buildingOfNoNumber);
        DUE.test("14: NONE if it is no HOUSE (not made yet, or gone)", BuildsTest::buildingOfWhatIsNotThere);
        DUE.test("14: NONE for another what (too small)", () -> buildingOfAnotherWhat(-1, -2, Integer.MIN_VALUE));
        DUE.test("14: NONE for another what (too large)", () -> buildingOfAnotherWhat(2, 3, Integer.MAX_VALUE));
    }

    private static void build(BuildCounter x, boolean due, int house, int turns) {
        DUE.is("build(" + house + ", " + turns + ")", due ? 1 : 0, x.build(house, turns) ? 1 : 0);
    }

    private static void turn(BuildCounter x, int due, int house) {
        DUE.is("turn(" + house + ")", due, x.turn(house));
    }

    private static void building(BuildCounter x, int due, int house, int what) {
        DUE.is("building(" + house + ", " + what + ")", due, x.building(house, what));
    }

    /** 0 HOUSE, 1 TREE, 2 TARGET, 3 TEST, 4 ACTION, 5 TARGET, 6 ACTION; CALL 7 for ACTIONS, CALL 9 for TESTS. */
    private static BuildCounter working() {
        BuildCounter x = Scene.works();
        x.define(7, 4, NONE, 0, 9);
        x.define(9, 5, NONE, 0, 9);
        return x;
    }

    private static void buildOfEachLength() {
        for (int turns = 1; turns <= 9; turns++) {
            BuildCounter x = Scene.houses(1);
            build(x, true, 0, turns);
            for (int n = 0; n < turns; n++) {
                turn(x, 0, 0);
            }
            turn(x, NONE, 0);
        }
    }

    private static void buildOfWrongLength(int... wrong) {
        BuildCounter x = Scene.houses(1);
        for (int turns : wrong) {
            build(x, false, 0, turns);
            building(x, 0, 0, 0);
            turn(x, NONE, 0);
        }
    }

    private static void buildOfAnotherKind() {
        BuildCounter x = Scene.oneOfEach();
        for (int number = 1; number < 9; number++) {
            build(x, false, number, 1);
        }
        building(x, 0, 0, 0);
    }

    private static void buildOfNoNumber() {
        BuildCounter x = Scene.houses(60);
        for (int number : Scene.NEVER_A_NUMBER) {
            build(x, false, number, 1);
        }
    }

    private static void buildOfWhatIsNotMade() {
        BuildCounter x = Scene.houses(1);
        build(x, false, 1, 1);
        build(x, false, 59, 1);
        x.make(0, 0);
        building(x, 0, 1, 0);
    }

    private static void buildOfWhatIsGone() {
        BuildCounter x = Scene.houses(2);
        x.drop(0);
        build(x, false, 0, 1);
        build(x, true, 1, 1);
    }

    private static void buildTwice() {
        BuildCounter x = Scene.houses(1);
        build(x, true, 0, 2);
        build(x, false, 0, 1);
        build(x, false, 0, 9);
        x.turn(0);
        build(x, false, 0, 2);
    }

    private static void falseBuildChangesNothing() {
        BuildCounter x = working();
        x.build(0, 3);
        x.turn(0);
        build(x, false, 0, 9);
        build(x, false, 0, 10);
        building(x, 2, 0, 0);
        turn(x, 3, 0);
        DUE.told(x, 0, 0, 6, 7, 2);
    }

    private static void buildAgain() {
        BuildCounter x = Scene.houses(1);
        for (int turns = 1; turns <= 9; turns++) {
            build(x, true, 0, turns);
            for (int n = 0; n < turns; n++) {
                x.turn(0);
            }
        }
    }

    private static void buildOfOneHouse() {
        BuildCounter x = Scene.houses(3);
        build(x, true, 1, 4);
        building(x, 0, 0, 0);
        building(x, 4, 1, 0);
        building(x, 0, 2, 0);
        build(x, true, 0, 2);
        x.turn(0);
        building(x, 4, 1, 0);
    }

    private static void buildOfSixtyHouses() {
        BuildCounter x = Scene.houses(60);
        for (int house = 0; house < 60; house++) {
            build(x, true, house, house % 9 + 1);
        }
        for (int house = 0; house < 60; house++) {
            building(x, house % 9 + 1, house, 0);
        }
    }

    private static void turnTellsHowMany() {
        BuildCounter x = working();
        x.build(0, 2);
        turn(x, 3, 0);
        turn(x, 3, 0);
    }

    private static void turnOfAnEmptyHouse() {
        BuildCounter x = Scene.houses(1);
        x.define(0, 4, NONE, 0, 9);
        x.define(1, 5, NONE, 0, 9);
        x.build(0, 1);
        turn(x, 0, 0);
        DUE.counts(x, 0, 0, 0, 0, 0);
    }

    private static void turnOfAFullHouse() {
        BuildCounter x = Scene.of(new int[][] {{0, 0}, {1, 0}, {3, 1}});
        for (int n = 3; n < 60; n++) {
            x.make(4 + n % 2, 2);
        }
        x.define(0, 4, NONE, 0, 9);
        x.define(1, 5, NONE, 0, 9);
        x.build(0, 1);
        turn(x, 57, 0);
        DUE.told(x, 0, 0, 59, 1, 1);
        DUE.counts(x, 57, 57, 0, 0, 0);
    }

    private static void turnWithFailures() {
        BuildCounter x = working();
        x.fails(7, 2, 3);
        x.build(0, 3);
        turn(x, 1, 0);
        turn(x, 2, 0);
        x.fails(7, 1, 9);
        x.fails(9, 1, 9);
        turn(x, 0, 0);
    }

    private static void turnWithoutThoseThatWait() {
        BuildCounter x = working();
        x.define(0, 0, 2, 0, 9);
        x.build(0, 1);
        x.collect(2, 0);
        x.call(0, 0, 0);
        turn(x, 3, 0);
        DUE.counts(x, 5, 4, 0, 0, 1);
    }

    private static void turnOfAnotherKind() {
        BuildCounter x = Scene.oneOfEach();
        x.build(0, 1);
        for (int number = 1; number < 9; number++) {
            turn(x, NONE, number);
        }
        building(x, 1, 0, 0);
    }

    private static void turnOfNoNumber() {
        BuildCounter x = Scene.houses(60);
        x.build(0, 1);
        x.build(59, 1);
        for (int number : Scene.NEVER_A_NUMBER) {
            turn(x, NONE, number);
        }
        building(x, 1, 0, 0);
        building(x, 1, 59, 0);
    }

    private static void turnOfWhatIsNotThere() {
        BuildCounter x = Scene.houses(1);
        turn(x, NONE, 1);
        turn(x, NONE, 59);
        x.drop(0);
        turn(x, NONE, 0);
    }

    private static void turnWithoutABuild() {
        BuildCounter x = Scene.houses(2);
        x.build(1, 1);
        turn(x, NONE, 0);
        building(x, 1, 1, 0);
    }

    private static void turnBehindABuild() {
        BuildCounter x = working();
        x.build(0, 1);
        turn(x, 3, 0);
        turn(x, NONE, 0);
        turn(x, NONE, 0);
    }

    private static void noTurnAndNothingGoes() {
        BuildCounter x = working();
        turn(x, NONE, 0);
        x.build(0, 1);
        x.turn(0);
        turn(x, NONE, 0);
        DUE.counts(x, 3, 3, 0, 0, 0);
    }

    private static void goByNumbers() {
        BuildCounter x = working();
        x.answer(7, 10);
        x.answer(7, 20);
        x.build(0, 1);
        x.turn(0);
        DUE.told(x, 2, 0, 3, 9, 1);
        DUE.told(x, 1, 0, 4, 7, 11);
        DUE.told(x, 0, 0, 6, 7, 21);
        DUE.is("count(0)", 3, x.count(0));
    }

    private static void otherKindsDoNotGo() {
        BuildCounter x = Scene.oneOfEach();
        for (int kind = 0; kind < 9; kind++) {
            x.define(kind, kind, NONE, 0, 9);
        }
        x.build(0, 1);
        turn(x, 2, 0);
        DUE.told(x, 1, 0, 3, 4, 1);
        DUE.told(x, 0, 0, 4, 5, 1);
        DUE.is("count(0)", 2, x.count(0));
    }

    private static void otherHousesDoNotGo() {
        BuildCounter x = Scene.of(new int[][] {{0, 0}, {0, 0}, {1, 0}, {1, 1}, {3, 2}, {3, 3}, {4, 4}, {4, 5}});
        x.define(0, 4, NONE, 0, 9);
        x.build(0, 1);
        x.build(1, 1);
        turn(x, 1, 1);
        DUE.told(x, 0, 0, 7, 0, 1);
        turn(x, 1, 0);
        DUE.told(x, 0, 0, 6, 0, 1);
        DUE.is("count(0)", 2, x.count(0));
    }

    private static void whatIsGoneDoesNotGo() {
        BuildCounter x = working();
        x.drop(4);
        x.build(0, 1);
        turn(x, 2, 0);
        DUE.told(x, 1, 0, 3, 9, 1);
        DUE.told(x, 0, 0, 6, 7, 1);
    }

    private static void leastCall() {
        BuildCounter x = Scene.works();
        x.define(3, 0, NONE, 0, 0);
        x.define(8, 5, NONE, 0, 0);
        x.define(4, 5, NONE, 0, 0);
        x.define(6, 5, NONE, 0, 0);
        x.build(0, 1);
        turn(x, 1, 0);
        DUE.told(x, 0, 0, 3, 4, 1);
    }

    private static void leastCallOfAll() {
        BuildCounter x = Scene.works();
        x.build(0, 2);
        x.define(11, 5, NONE, 0, 0);
        turn(x, 1, 0);
        DUE.told(x, 0, 0, 3, 11, 1);
        x.define(0, 5, NONE, 0, 0);
        turn(x, 1, 0);
        DUE.told(x, 0, 0, 3, 0, 2);
    }

    private static void leastCallNow() {
        BuildCounter x = Scene.works();
        x.define(2, 5, NONE, 0, 0);
        x.define(5, 5, NONE, 0, 0);
        x.build(0, 2);
        turn(x, 1, 0);
        DUE.told(x, 0, 0, 3, 2, 1);
        x.define(2, 6, NONE, 0, 0);
        turn(x, 1, 0);
        DUE.told(x, 0, 0, 3, 5, 2);
    }

    private static void noCallForItsKind() {
        BuildCounter x = Scene.works();
        x.build(0, 2);
        turn(x, 0, 0);
        DUE.notTold(x, 0);
        x.define(0, 5, NONE, 0, 0);
        turn(x, 1, 0);
        DUE.told(x, 0, 0, 3, 0, 2);
        DUE.is("count(0)", 1, x.count(0));
    }

    private static void turnsHaveNumbers() {
        BuildCounter x = Scene.works();
        x.define(0, 5, NONE, 0, 0);
        x.build(0, 9);
        for (int n = 1; n <= 9; n++) {
            turn(x, 1, 0);
            DUE.told(x, 0, 0, 3, 0, n);
        }
    }

    private static void turnsBeginAnew() {
        BuildCounter x = Scene.works();
        x.define(0, 5, NONE, 0, 0);
        for (int turns = 2; turns <= 4; turns++) {
            x.build(0, turns);
            for (int n = 1; n <= turns; n++) {
                x.turn(0);
                DUE.told(x, 0, 0, 3, 0, n);
            }
        }
    }

    private static void turnsAskForNoRange() {
        BuildCounter x = Scene.works();
        x.define(0, 5, NONE, 100, 200);
        x.define(1, 4, NONE, MIN, 0);
        x.build(0, 1);
        turn(x, 3, 0);
        DUE.told(x, 2, 0, 3, 0, 1);
        DUE.told(x, 0, 0, 6, 1, 1);
    }

    private static void turnsTakeNothing() {
        BuildCounter x = Scene.works();
        x.define(0, 5, 1, 0, 9);
        x.define(1, 4, 2, 0, 9);
        x.collect(1, 97);
        x.build(0, 1);
        turn(x, 3, 0);
        DUE.told(x, 2, 0, 3, 0, 1);
        DUE.told(x, 0, 0, 6, 1, 1);
        DUE.is("collected(1)", 1, x.collected(1));
        building(x, 0, 0, 1);
    }

    private static void turnsMoveNext() {
        BuildCounter x = Scene.works();
        x.define(0, 5, NONE, 0, 9);
        x.answer(0, 10);
        x.answer(0, 20);
        x.build(0, 3);
        x.turn(0);
        DUE.is("value(0)", 11, x.value(0));
        DUE.is("call(0, 3, 0)", 20, x.call(0, 3, 0));
        x.turn(0);
        DUE.is("value(0)", 12, x.value(0));
        x.turn(0);
        DUE.is("value(0)", 23, x.value(0));
    }

    private static void turnsUseFailures() {
        BuildCounter x = working();
        x.fails(7, 3, 1);
        x.build(0, 1);
        turn(x, 2, 0);
        DUE.told(x, 2, 0, 3, 9, 1);
        DUE.told(x, 1, 3, 4, 7, 0);
        DUE.told(x, 0, 0, 6, 7, 1);
    }

    private static void turnsWrapRound() {
        BuildCounter x = Scene.works();
        x.define(0, 5, NONE, 0, 9);
        x.answer(0, MAX);
        x.build(0, 1);
        turn(x, 1, 0);
        DUE.told(x, 0, 0, 3, 0, MIN);
    }

    private static void overBehindTheLastTurn() {
        for (int turns = 1; turns <= 9; turns++) {
            BuildCounter x = Scene.houses(1);
            x.build(0, turns);
            for (int n = 1; n < turns; n++) {
                x.turn(0);
                build(x, false, 0, 1);
                DUE.is("drop(0)", NONE, x.drop(0));
            }
            x.turn(0);
            DUE.is("drop(0)", 1, x.drop(0));
        }
    }

    private static void waitingGoBehindTheTurn() {
        BuildCounter x = working();
        x.define(0, 5, 2, 0, 9);
        x.answer(0, 100);
        x.answer(0, 200);
        x.build(0, 1);
        x.collect(2, 0);
        x.call(0, 3, 5);
        turn(x, 3, 0);
        DUE.told(x, 3, 0, 3, 0, 101);
        DUE.told(x, 2, 0, 4, 7, 1);
        DUE.told(x, 1, 0, 6, 7, 1);
        DUE.told(x, 0, 0, 3, 0, 206);
    }

    private static void noneWait() {
        BuildCounter x = Scene.waiting(0);
        x.turn(0);
        turn(x, 0, 0);
        DUE.counts(x, 0, 0, 0, 0, 0);
    }

    private static void sixWait() {
        BuildCounter x = Scene.waiting(6);
        x.turn(0);
        turn(x, 0, 0);
        for (int n = 0; n < 6; n++) {
            DUE.told(x, 5 - n, 0, 0, 0, n + 1);
        }
        DUE.counts(x, 12, 6, 0, 0, 6);
    }

    private static void waitingDoNotGoBefore() {
        BuildCounter x = Scene.waiting(3);
        turn(x, 0, 0);
        building(x, 3, 0, 1);
        DUE.counts(x, 3, 0, 0, 0, 3);
    }

    private static void waitingGoOnce() {
        BuildCounter x = Scene.waiting(3);
        x.turn(0);
        x.turn(0);
        DUE.counts(x, 6, 3, 0, 0, 3);
        x.build(0, 1);
        turn(x, 0, 0);
        DUE.counts(x, 6, 3, 0, 0, 3);
    }

    private static void waitingGoInOrder() {
        BuildCounter x = Scene.of(new int[][] {{0, 0}, {1, 0}, {1, 0}});
        x.define(5, 1, 2, 0, 9);
        x.define(1, 0, 2, 0, 9);
        x.answer(5, 100);
        x.answer(5, 200);
        x.build(0, 2);
        int[][] rows = {{5, 2, 7}, {1, 0, 3}, {5, 1, 4}};
        for (int[] row : rows) {
            x.collect(2, 0);
            x.call(row[0], row[1], row[2]);
            if (row[0] == 1) {
                x.turn(0);
            }
        }
        x.turn(0);
        DUE.told(x, 2, 0, 2, 5, 108);
        DUE.told(x, 1, 0, 0, 1, 4);
        DUE.told(x, 0, 0, 1, 5, 205);
    }

    private static void eachHouseHasItsOwn() {
        BuildCounter x = Scene.waiting(2);
        x.build(1, 1);
        x.collect(2, 9);
        x.call(0, 1, 0);
        building(x, 2, 0, 1);
        building(x, 1, 1, 1);
        x.turn(1);
        DUE.told(x, 0, 0, 1, 0, 10);
        DUE.counts(x, 4, 1, 0, 0, 3);
        building(x, 2, 0, 1);
        building(x, 0, 1, 1);
    }

    private static void waitingKeepW() {
        BuildCounter x = Scene.houses(1);
        x.define(0, 0, 2, MIN, MAX);
        x.build(0, 1);
        x.collect(2, 0);
        x.call(0, 0, MAX);
        x.collect(2, 4);
        x.call(0, 0, MIN);
        x.collect(2, 200);
        x.turn(0);
        DUE.told(x, 1, 0, 0, 0, MIN);
        DUE.told(x, 0, 0, 0, 0, MIN + 5);
        DUE.is("collected(2)", 1, x.collected(2));
    }

    private static void tableAsItIsThen() {
        BuildCounter x = Scene.waiting(3);
        x.answer(0, 100);
        x.answer(0, 200);
        x.turn(0);
        x.turn(0);
        DUE.told(x, 2, 0, 0, 0, 101);
        DUE.told(x, 1, 0, 0, 0, 202);
        DUE.told(x, 0, 0, 0, 0, 103);
    }

    private static void failuresAsTheyAreThen() {
        BuildCounter x = Scene.houses(1);
        x.define(0, 0, 2, 0, 9);
        x.fails(0, 1, 9);
        x.build(0, 1);
        for (int n = 0; n < 3; n++) {
            x.collect(2, 0);
            x.call(0, 0, n);
        }
        x.fails(0, 3, 1);
        x.turn(0);
        DUE.told(x, 2, 3, 0, 0, 0);
        DUE.told(x, 1, 0, 0, 0, 2);
        DUE.told(x, 0, 0, 0, 0, 3);
    }

    private static void definedAnew() {
        BuildCounter x = Scene.waiting(1);
        x.answer(0, 100);
        x.fails(0, 1, 9);
        x.define(0, 1, 0, -2, -1);
        x.answer(0, 7000);
        x.turn(0);
        x.turn(0);
        DUE.told(x, 0, 0, 0, 0, 7001);
    }

    private static void failedIsGone() {
        BuildCounter x = Scene.waiting(2);
        x.fails(0, 2, 1);
        x.turn(0);
        x.turn(0);
        DUE.told(x, 1, 2, 0, 0, 0);
        DUE.told(x, 0, 0, 0, 0, 2);
        DUE.is("collected(2)", 0, x.collected(2));
        building(x, 0, 0, 1);
        DUE.counts(x, 4, 1, 1, 0, 2);
    }

    private static void turnsStill() {
        for (int turns = 1; turns <= 9; turns++) {
            BuildCounter x = Scene.houses(1);
            x.build(0, turns);
            for (int n = turns; n >= 1; n--) {
                building(x, n, 0, 0);
                x.turn(0);
            }
            building(x, 0, 0, 0);
        }
    }

    private static void noTurnsWithoutABuild() {
        BuildCounter x = Scene.houses(1);
        building(x, 0, 0, 0);
        building(x, 0, 0, 1);
    }

    private static void howManyWait() {
        for (int n = 0; n <= 6; n++) {
            building(Scene.waiting(n), n, 0, 1);
            building(Scene.waiting(n), 0, 1, 1);
        }
        building(Scene.waiting(7), 6, 0, 1);
    }

    private static void noneWaitBehindABuild() {
        BuildCounter x = Scene.waiting(6);
        x.turn(0);
        building(x, 6, 0, 1);
        x.turn(0);
        building(x, 0, 0, 1);
        x.build(0, 1);
        building(x, 0, 0, 1);
    }

    private static void buildingOfAnotherKind() {
        BuildCounter x = Scene.oneOfEach();
        x.build(0, 3);
        for (int number = 1; number < 9; number++) {
            building(x, NONE, number, 0);
            building(x, NONE, number, 1);
        }
    }

    private static void buildingOfNoNumber() {
        BuildCounter x = Scene.houses(60);
        for (int number : Scene.NEVER_A_NUMBER) {
            building(x, NONE, number, 0);
            building(x, NONE, number, 1);
        }
    }

    private static void buildingOfWhatIsNotThere() {
        BuildCounter x = Scene.houses(1);
        for (int what = 0; what < 2; what++) {
            building(x, NONE, 1, what);
            building(x, NONE, 59, what);
        }
        x.drop(0);
        building(x, NONE, 0, 0);
        building(x, NONE, 0, 1);
    }

    private static void buildingOfAnotherWhat(int... wrong) {
        BuildCounter x = Scene.waiting(2);
        for (int what : wrong) {
            building(x, NONE, 0, what);
            building(x, NONE, 1, what);
        }
    }
}
