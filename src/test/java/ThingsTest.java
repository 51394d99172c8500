/** Promises 1 to 5: a new object, make, drop, numbers, about; and what 'Terms' says of THINGS. */
public final class ThingsTest {
    private static final Due DUE = new Due();
    private static final int NONE = BuildCounter.NONE;
    private static final int[] NO_KINDS_BELOW = {-1, -2, Integer.MIN_VALUE};
    private static final int[] NO_KINDS_ABOVE = {9, 10, Integer.MAX_VALUE};

    public static void main(String[] args) {
        newObjects();
        numbersOfThings();
        making();
        dropping();
        counting();
        asking();
        DUE.end();
    }

    private static void newObjects() {
        DUE.test("1: no things", ThingsTest::newWithoutThings);
        DUE.test("1: nothing COLLECTED", ThingsTest::newWithNothingCollected);
        DUE.test("1: no CALLS", ThingsTest::newWithoutCalls);
        DUE.test("1: nothing is TOLD", ThingsTest::newWithNothingTold);
        DUE.test("1: a new object, whatever was done with others", ThingsTest::newBesideAnother);
        DUE.test("1: a new object, and others stay as they are", ThingsTest::othersBesideANewOne);
    }

    private static void numbersOfThings() {
        DUE.test("Terms: numbered from 0 by their making", ThingsTest::numberedFromZero);
        DUE.test("Terms: numbered by their making, not what isn't made", ThingsTest::refusedTakesNoNumber);
        DUE.test("What it is: numbers, never twice", ThingsTest::neverTwice);
        DUE.test("Terms: at most 60 in all", ThingsTest::atMostSixty);
        DUE.test("Terms: 60 that were ever made", ThingsTest::sixtyEverMade);
    }

    private static void making() {
        DUE.test("2: for a HOUSE that doesn't count", ThingsTest::aHouseLiesInNothing);
        DUE.test("2: NONE if there is no such KIND (too small)", ThingsTest::makeOfAKindTooSmall);
        DUE.test("2: NONE if there is no such KIND (too large)", ThingsTest::makeOfAKindTooLarge);
        DUE.test("2: NONE if 60 were made", ThingsTest::makeOfEachKindWithSixty);
        DUE.test("2: NONE if there is no thing in which it would lie (no number of one)", ThingsTest::makeInNoNumber);
        DUE.test("2: NONE if there is no thing in which it would lie (not made yet)", ThingsTest::makeInWhatIsNotMade);
        DUE.test("2: NONE if there is no thing in which it would lie (gone)", ThingsTest::makeInWhatIsGone);
        DUE.test("2: NONE if that is not of the right KIND", ThingsTest::makeOfEachKindInEachKind);
        DUE.test("2: NONE if that one's HOUSE has a BUILD", ThingsTest::makeUnderABuild);
        DUE.test("2: that one's HOUSE, not another", ThingsTest::makeBesideABuild);
        DUE.test("2: has a BUILD, up to its last TURN", ThingsTest::makeBehindABuild);
    }

    private static void dropping() {
        DUE.test("3: a thing goes, with nothing in it", ThingsTest::dropOfAnEmptyThing);
        DUE.test("3: all that lies in it, and in that, and so on", ThingsTest::dropOfAllLevels);
        DUE.test("3: all that lies in it, up to 60", ThingsTest::dropOfSixty);
        DUE.test("3: what lies in it, and nothing beside", ThingsTest::dropLeavesTheOthers);
        DUE.test("3: how many, without those that went before", ThingsTest::dropCountsOnce);
        DUE.test("3: NONE if there is none such (no number of one)", ThingsTest::dropOfNoNumber);
        DUE.test("3: NONE if there is none such (not made yet)", ThingsTest::dropOfWhatIsNotMade);
        DUE.test("3: NONE if there is none such (gone)", ThingsTest::dropOfWhatIsGone);
        DUE.test("3: NONE if its HOUSE has a BUILD", ThingsTest::dropUnderABuild);
        DUE.test("3: its HOUSE, not another", ThingsTest::dropBesideABuild);
        DUE.test("3: has a BUILD, up to its last TURN", ThingsTest::dropBehindABuild);
    }

    private static void counting() {
        DUE.test("4: how many things there are of a KIND", ThingsTest::numbersOfEachKind);
        DUE.test("4: how many, with none", ThingsTest::numbersWithNone);
        DUE.test("4: how many, with all 60", ThingsTest::numbersWithSixty);
        DUE.test("4: how many there are, not were", ThingsTest::numbersAfterDrop);
        DUE.test("4: NONE if there is no such KIND (too small)", ThingsTest::numbersOfAKindTooSmall);
        DUE.test("4: NONE if there is no such KIND (too large)", ThingsTest::numbersOfAKindTooLarge);
    }

    private static void asking() {
        DUE.test("5: 0 its KIND", ThingsTest::aboutKinds);
        DUE.test("5: 1 in what it lies", ThingsTest::aboutPlaces);
        DUE.test("5: 1 NONE for a HOUSE", ThingsTest::aboutThePlaceOfAHouse);
        DUE.test("5: 2 its HOUSE, in which it lies at last", ThingsTest::aboutHouses);
        DUE.test("5: 2 a HOUSE itself", ThingsTest::aboutTheHouseOfAHouse);
        DUE.test("5: 3 how many lie in it (just in it)", ThingsTest::aboutHowManyLieIn);
        DUE.test("5: 3 how many, with none", ThingsTest::aboutHowManyWithNone);
        DUE.test("5: 3 how many, with all 59", ThingsTest::aboutHowManyWithAll);
        DUE.test("5: 3 how many lie there, not lay", ThingsTest::aboutHowManyAfterDrop);
        DUE.test("5: NONE if there is none such (no number of one)", ThingsTest::aboutNoNumber);
        DUE.test("5: NONE if there is none such (not made yet)", ThingsTest::aboutWhatIsNotMade);
        DUE.test("5: NONE if there is none such (gone)", ThingsTest::aboutWhatIsGone);
        DUE.test("5: NONE for another what (too small)", ThingsTest::aboutAWhatTooSmall);
        DUE.test("5: NONE for another what (too large)", ThingsTest::aboutAWhatTooLarge);
    }

    private static void make(BuildCounter x, int due, int kind, int in) {
        DUE.is("make(" + kind + ", " + in + ")", due, x.make(kind, in));
    }

    private static void drop(BuildCounter x, int due, int number) {
        DUE.is("drop(" + number + ")", due, x.drop(number));
    }

    private static void numbers(BuildCounter x, int due, int kind) {
        DUE.is("numbers(" + kind + ")", due, x.numbers(kind));
    }

    private static void about(BuildCounter x, int due, int number, int what) {
        DUE.is("about(" + number + ", " + what + ")", due, x.about(number, what));
    }

    /** 0 HOUSE, 1 to 59 TREES in it. */
    private static BuildCounter fullHouse() {
        BuildCounter x = Scene.houses(1);
        for (int n = 1; n < 60; n++) {
            x.make(1, 0);
        }
        return x;
    }

    private static void newWithoutThings() {
        BuildCounter x = new BuildCounter();
        for (int kind = 0; kind < 9; kind++) {
            numbers(x, 0, kind);
        }
        for (int number = 0; number < 60; number++) {
            about(x, NONE, number, 0);
        }
        make(x, NONE, 1, 0);
        drop(x, NONE, 0);
        DUE.no("build(0, 1)", x.build(0, 1));
        DUE.is("turn(0)", NONE, x.turn(0));
        DUE.is("building(0, 0)", NONE, x.building(0, 0));
    }

    private static void newWithNothingCollected() {
        BuildCounter x = new BuildCounter();
        for (int sort = 0; sort < 3; sort++) {
            DUE.is("collected(" + sort + ")", 0, x.collected(sort));
        }
    }

    private static void newWithoutCalls() {
        BuildCounter x = Scene.houses(1);
        for (int call = 0; call < 12; call++) {
            DUE.is("answer(" + call + ", 1)", NONE, x.answer(call, 1));
            DUE.no("fails(" + call + ", 1, 1)", x.fails(call, 1, 1));
            DUE.is("call(" + call + ", 0, 0)", -1, x.call(call, 0, 0));
        }
    }

    private static void newWithNothingTold() {
        BuildCounter x = new BuildCounter();
        for (int i = 0; i < 40; i++) {
            DUE.notTold(x, i);
        }
        DUE.counts(x, 0, 0, 0, 0, 0);
    }

    private static void newBesideAnother() {
        BuildCounter used = Scene.oneOfEach();
        used.define(0, 0, NONE, 0, 9);
        used.collect(0, 65);
        used.call(0, 0, 1);
        used.build(0, 3);
        newWithoutThings();
        newWithNothingCollected();
        newWithoutCalls();
        newWithNothingTold();
    }

    private static void othersBesideANewOne() {
        BuildCounter used = Scene.waiting(2);
        used.collect(0, 97);
        BuildCounter x = new BuildCounter();
        make(x, 0, 0, 0);
        x.define(0, 0, 0, 5, 6);
        make(used, 2, 0, 0);
        numbers(used, 3, 0);
        DUE.is("building(0, 1)", 2, used.building(0, 1));
        DUE.is("collected(0)", 1, used.collected(0));
        DUE.is("count(0)", 2, used.count(0));
        DUE.is("answer(0, 1)", 1, used.answer(0, 1));
        make(x, 1, 0, 0);
    }

    private static void numberedFromZero() {
        BuildCounter x = new BuildCounter();
        int[] kinds = {0, 1, 3, 4, 5, 0, 6, 7, 2, 8};
        int[] places = {0, 0, 1, 2, 2, 0, 5, 6, 5, 0};
        for (int n = 0; n < kinds.length; n++) {
            make(x, n, kinds[n], places[n]);
        }
    }

    private static void refusedTakesNoNumber() {
        BuildCounter x = Scene.houses(1);
        make(x, NONE, 9, 0);
        make(x, NONE, 3, 0);
        make(x, NONE, 1, 1);
        make(x, 1, 1, 0);
    }

    private static void neverTwice() {
        BuildCounter x = Scene.houses(3);
        drop(x, 1, 2);
        make(x, 3, 0, 0);
        drop(x, 1, 0);
        make(x, 4, 0, 0);
        about(x, NONE, 0, 0);
        about(x, NONE, 2, 0);
    }

    private static void atMostSixty() {
        BuildCounter x = new BuildCounter();
        for (int n = 0; n < 60; n++) {
            make(x, n, 0, 0);
        }
        make(x, NONE, 0, 0);
        make(x, NONE, 0, 0);
        numbers(x, 60, 0);
    }

    private static void sixtyEverMade() {
        BuildCounter x = new BuildCounter();
        for (int n = 0; n < 60; n++) {
            make(x, n, 0, 0);
            drop(x, 1, n);
        }
        make(x, NONE, 0, 0);
        numbers(x, 0, 0);
    }

    private static void aHouseLiesInNothing() {
        BuildCounter x = Scene.oneOfEach();
        x.build(0, 1);
        int due = 9;
        for (int in : new int[] {0, 1, 3, 9, 59, -1, 60, Integer.MIN_VALUE, Integer.MAX_VALUE}) {
            make(x, due, 0, in);
            about(x, NONE, due, 1);
            due++;
        }
        about(x, 4, 0, 3);
    }

    private static void makeOfAKindTooSmall() {
        BuildCounter x = Scene.oneOfEach();
        for (int kind : NO_KINDS_BELOW) {
            for (int in = -1; in < 9; in++) {
                make(x, NONE, kind, in);
            }
        }
    }

    private static void makeOfAKindTooLarge() {
        BuildCounter x = Scene.oneOfEach();
        for (int kind : NO_KINDS_ABOVE) {
            for (int in = -1; in < 9; in++) {
                make(x, NONE, kind, in);
            }
        }
    }

    private static void makeOfEachKindWithSixty() {
        int[] placeOfKind = {0, 0, 0, 1, 2, 2, 0, 5, 0};
        BuildCounter x = Scene.oneOfEach();
        for (int n = 9; n < 60; n++) {
            make(x, n, n % 9, placeOfKind[n % 9]);
        }
        for (int kind = 0; kind < 9; kind++) {
            make(x, NONE, kind, placeOfKind[kind]);
        }
        drop(x, 1, 8);
        for (int kind = 0; kind < 9; kind++) {
            make(x, NONE, kind, placeOfKind[kind]);
        }
    }

    private static void makeInNoNumber() {
        BuildCounter x = Scene.oneOfEach();
        for (int kind = 1; kind < 9; kind++) {
            for (int in : Scene.NEVER_A_NUMBER) {
                make(x, NONE, kind, in);
            }
        }
    }

    private static void makeInWhatIsNotMade() {
        BuildCounter x = Scene.oneOfEach();
        for (int kind = 1; kind < 9; kind++) {
            make(x, NONE, kind, 9);
            make(x, NONE, kind, 59);
        }
    }

    private static void makeInWhatIsGone() {
        BuildCounter x = Scene.oneOfEach();
        x.drop(5);
        make(x, NONE, 7, 5);
        x.drop(1);
        make(x, NONE, 3, 1);
        make(x, NONE, 4, 2);
        make(x, NONE, 5, 2);
        x.drop(0);
        for (int kind : new int[] {1, 2, 6, 8}) {
            make(x, NONE, kind, 0);
        }
    }

    private static void makeOfEachKindInEachKind() {
        for (int kind = 1; kind < 9; kind++) {
            for (int in = 0; in < 9; in++) {
                BuildCounter x = Scene.oneOfEach();
                make(x, x.about(in, 0) == Scene.PLACES[kind] ? 9 : NONE, kind, in);
            }
        }
    }

    private static void makeUnderABuild() {
        BuildCounter x = Scene.oneOfEach();
        x.build(0, 1);
        for (int kind : new int[] {1, 2, 6, 8}) {
            make(x, NONE, kind, 0);
        }
        make(x, NONE, 3, 1);
        make(x, NONE, 4, 2);
        make(x, NONE, 5, 2);
        make(x, NONE, 7, 5);
    }

    private static void makeBesideABuild() {
        BuildCounter x = Scene.oneOfEach();
        make(x, 9, 0, 0);
        x.build(9, 1);
        make(x, 10, 1, 0);
        make(x, 11, 5, 2);
        make(x, NONE, 1, 9);
    }

    private static void makeBehindABuild() {
        BuildCounter x = Scene.oneOfEach();
        x.build(0, 2);
        x.turn(0);
        make(x, NONE, 1, 0);
        make(x, NONE, 5, 2);
        x.turn(0);
        make(x, 9, 1, 0);
        make(x, 10, 5, 2);
    }

    private static void dropOfAnEmptyThing() {
        BuildCounter x = Scene.oneOfEach();
        for (int number : new int[] {3, 4, 6, 7, 8}) {
            drop(x, 1, number);
            about(x, NONE, number, 0);
        }
        numbers(x, 1, 3);
    }

    private static void dropOfAllLevels() {
        BuildCounter x = Scene.oneOfEach();
        drop(x, 9, 0);
        for (int number = 0; number < 9; number++) {
            about(x, NONE, number, 0);
            numbers(x, 0, number);
        }
    }

    private static void dropOfSixty() {
        BuildCounter x = fullHouse();
        drop(x, 60, 0);
        numbers(x, 0, 0);
        numbers(x, 0, 1);
        about(x, NONE, 59, 0);
    }

    private static void dropLeavesTheOthers() {
        BuildCounter x = Scene.of(new int[][] {{0, 0}, {0, 0}, {1, 1}, {1, 0}, {3, 2}, {3, 3}, {1, 0}, {3, 6}});
        drop(x, 2, 3);
        about(x, 0, 7, 2);
        about(x, 6, 7, 1);
        drop(x, 3, 0);
        about(x, 1, 1, 3);
        about(x, 1, 4, 2);
        numbers(x, 1, 3);
    }

    private static void dropCountsOnce() {
        BuildCounter x = Scene.oneOfEach();
        drop(x, 1, 3);
        drop(x, 2, 5);
        drop(x, 3, 1);
        drop(x, 3, 0);
    }

    private static void dropOfNoNumber() {
        BuildCounter x = Scene.oneOfEach();
        for (int number : Scene.NEVER_A_NUMBER) {
            drop(x, NONE, number);
        }
        for (int kind = 0; kind < 9; kind++) {
            numbers(x, 1, kind);
        }
    }

    private static void dropOfWhatIsNotMade() {
        BuildCounter x = Scene.oneOfEach();
        drop(x, NONE, 9);
        drop(x, NONE, 59);
        make(x, 9, 0, 0);
        drop(x, 1, 9);
    }

    private static void dropOfWhatIsGone() {
        BuildCounter x = Scene.oneOfEach();
        x.drop(1);
        for (int number = 1; number < 5; number++) {
            drop(x, NONE, number);
        }
    }

    private static void dropUnderABuild() {
        BuildCounter x = Scene.oneOfEach();
        x.build(0, 1);
        for (int number = 0; number < 9; number++) {
            drop(x, NONE, number);
            numbers(x, 1, number);
        }
    }

    private static void dropBesideABuild() {
        BuildCounter x = Scene.oneOfEach();
        x.make(0, 0);
        x.build(9, 1);
        drop(x, 4, 1);
        drop(x, 5, 0);
        drop(x, NONE, 9);
    }

    private static void dropBehindABuild() {
        BuildCounter x = Scene.oneOfEach();
        x.build(0, 2);
        x.turn(0);
        drop(x, NONE, 3);
        x.turn(0);
        drop(x, 1, 3);
        drop(x, 8, 0);
    }

    private static void numbersOfEachKind() {
        BuildCounter x = Scene.of(new int[][] {
            {0, 0}, {1, 0}, {1, 0}, {2, 0}, {3, 1}, {3, 1}, {3, 2},
            {4, 4}, {5, 4}, {5, 5}, {6, 0}, {7, 10}, {7, 10}, {8, 0}});
        int[] due = {1, 2, 1, 3, 1, 2, 1, 2, 1};
        for (int kind = 0; kind < 9; kind++) {
            numbers(x, due[kind], kind);
        }
    }

    private static void numbersWithNone() {
        BuildCounter x = Scene.houses(1);
        for (int kind = 1; kind < 9; kind++) {
            numbers(x, 0, kind);
        }
    }

    private static void numbersWithSixty() {
        numbers(Scene.houses(60), 60, 0);
        numbers(fullHouse(), 59, 1);
    }

    private static void numbersAfterDrop() {
        BuildCounter x = Scene.oneOfEach();
        x.make(3, 1);
        x.drop(2);
        numbers(x, 1, 3);
        numbers(x, 0, 4);
        numbers(x, 0, 5);
        x.drop(9);
        numbers(x, 0, 3);
    }

    private static void numbersOfAKindTooSmall() {
        for (int kind : NO_KINDS_BELOW) {
            numbers(Scene.oneOfEach(), NONE, kind);
        }
    }

    private static void numbersOfAKindTooLarge() {
        for (int kind : NO_KINDS_ABOVE) {
            numbers(Scene.oneOfEach(), NONE, kind);
        }
    }

    private static void aboutKinds() {
        BuildCounter x = Scene.oneOfEach();
        int[] due = {0, 1, 3, 4, 5, 6, 7, 2, 8};
        for (int number = 0; number < 9; number++) {
            about(x, due[number], number, 0);
        }
    }

    private static void aboutPlaces() {
        BuildCounter x = Scene.oneOfEach();
        int[] due = {NONE, 0, 1, 2, 2, 0, 5, 0, 0};
        for (int number = 1; number < 9; number++) {
            about(x, due[number], number, 1);
        }
        BuildCounter y = Scene.houses(59);
        make(y, 59, 8, 58);
        about(y, 58, 59, 1);
    }

    private static void aboutThePlaceOfAHouse() {
        BuildCounter x = Scene.of(new int[][] {{0, 0}, {0, 0}, {1, 1}, {0, 2}});
        about(x, NONE, 0, 1);
        about(x, NONE, 1, 1);
        about(x, NONE, 3, 1);
    }

    private static void aboutHouses() {
        BuildCounter x = Scene.of(new int[][] {
            {0, 0}, {0, 0}, {1, 1}, {3, 2}, {4, 3}, {5, 3}, {6, 1}, {7, 6}, {2, 1}, {8, 0}});
        for (int number = 2; number < 9; number++) {
            about(x, 1, number, 2);
        }
        about(x, 0, 9, 2);
    }

    private static void aboutTheHouseOfAHouse() {
        BuildCounter x = Scene.houses(60);
        for (int number = 0; number < 60; number++) {
            about(x, number, number, 2);
        }
    }

    private static void aboutHowManyLieIn() {
        BuildCounter x = Scene.oneOfEach();
        int[] due = {4, 1, 2, 0, 0, 1, 0, 0, 0};
        for (int number = 0; number < 9; number++) {
            about(x, due[number], number, 3);
        }
        make(x, 9, 0, 0);
        about(x, 4, 0, 3);
    }

    private static void aboutHowManyWithNone() {
        BuildCounter x = Scene.houses(60);
        about(x, 0, 0, 3);
        about(x, 0, 58, 3);
        about(x, 0, 59, 3);
    }

    private static void aboutHowManyWithAll() {
        about(fullHouse(), 59, 0, 3);
    }

    private static void aboutHowManyAfterDrop() {
        BuildCounter x = Scene.oneOfEach();
        x.drop(3);
        about(x, 1, 2, 3);
        x.drop(2);
        about(x, 0, 1, 3);
        x.drop(8);
        about(x, 3, 0, 3);
    }

    private static void aboutNoNumber() {
        BuildCounter x = Scene.oneOfEach();
        for (int number : Scene.NEVER_A_NUMBER) {
            for (int what = 0; what < 4; what++) {
                about(x, NONE, number, what);
            }
        }
    }

    private static void aboutWhatIsNotMade() {
        BuildCounter x = Scene.oneOfEach();
        for (int what = 0; what < 4; what++) {
            about(x, NONE, 9, what);
            about(x, NONE, 59, what);
        }
    }

    private static void aboutWhatIsGone() {
        BuildCounter x = Scene.oneOfEach();
        x.drop(1);
        for (int number = 1; number < 5; number++) {
            for (int what = 0; what < 4; what++) {
                about(x, NONE, number, what);
            }
        }
    }

    private static void aboutAWhatTooSmall() {
        BuildCounter x = Scene.oneOfEach();
        for (int number = 0; number < 9; number++) {
            about(x, NONE, number, -1);
            about(x, NONE, number, Integer.MIN_VALUE);
        }
    }

    private static void aboutAWhatTooLarge() {
        BuildCounter x = Scene.oneOfEach();
        for (int number = 0; number < 9; number++) {
            about(x, NONE, number, 4);
            about(x, NONE, number, Integer.MAX_VALUE);
        }
    }
}
