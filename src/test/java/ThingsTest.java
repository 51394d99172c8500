/** Promises 1 to 5: a new object, make, drop, numbers, about. */
public final class ThingsTest {
    private static final Due DUE = new Due();
    private static final int NONE = BuildCounter.NONE;
    private static final int[] PARENTS = {NONE, 0, 0, 1, 3, 3, 0, 6, 0};
    private static final int[] WRONG = {-1, -2, 60, 61, Integer.MIN_VALUE, Integer.MAX_VALUE};

    public static void main(String[] args) {
        aNewObject();
        objectsAreApart();
        makeGivesNumbersInOrder();
        makeOfEachKindInEachKind();
        makeWithWrongArguments();
        makeAtMostSixty();
        makeAndDropUnderABuild();
        dropTakesAllLevels();
        dropOfAHouseLeavesTheOthers();
        dropWithWrongArguments();
        numbersOfKinds();
        aboutThings();
        DUE.end();
    }

    /** 0 HOUSE, 1 TREE, 2 TARGET, 3 ACTION, 4 TEST, 5 PIPELINE, 6 JOB, 7 REGISTRY, 8 RELEASE. */
    private static BuildCounter oneOfEach() {
        BuildCounter x = new BuildCounter();
        int[][] rows = {{0, 0}, {1, 0}, {3, 1}, {4, 2}, {5, 2}, {6, 0}, {7, 5}, {2, 0}, {8, 0}};
        for (int n = 0; n < rows.length; n++) {
            DUE.is("make(" + rows[n][0] + ", " + rows[n][1] + ")", n, x.make(rows[n][0], rows[n][1]));
        }
        return x;
    }

    private static void aNewObject() {
        BuildCounter x = new BuildCounter();
        for (int kind = 0; kind < 9; kind++) {
            DUE.is("new: numbers(" + kind + ")", 0, x.numbers(kind));
        }
        for (int number = 0; number < 60; number++) {
            DUE.is("new: about(" + number + ", 0)", NONE, x.about(number, 0));
        }
        for (int sort = 0; sort < 3; sort++) {
            DUE.is("new: collected(" + sort + ")", 0, x.collected(sort));
        }
        for (int call = 0; call < 12; call++) {
            DUE.is("new: answer(" + call + ", 1)", NONE, x.answer(call, 1));
            DUE.no("new: fails(" + call + ", 1, 1)", x.fails(call, 1, 1));
        }
        for (int what = 0; what < 5; what++) {
            DUE.is("new: count(" + what + ")", 0, x.count(what));
        }
        DUE.is("new: told(0, 0)", NONE, x.told(0, 0));
        DUE.is("new: value(0)", 0, x.value(0));
        DUE.is("new: building(0, 0)", NONE, x.building(0, 0));
        DUE.is("new: turn(0)", NONE, x.turn(0));
        DUE.is("NONE", -1, BuildCounter.NONE);
    }

    private static void objectsAreApart() {
        BuildCounter x = oneOfEach();
        x.define(0, 0, NONE, 0, 9);
        x.collect(0, 65);
        x.call(0, 0, 1);
        x.build(0, 3);
        aNewObject();
    }

    private static void makeGivesNumbersInOrder() {
        BuildCounter x = new BuildCounter();
        DUE.is("make(0, MIN)", 0, x.make(0, Integer.MIN_VALUE));
        DUE.is("make(0, MAX)", 1, x.make(0, Integer.MAX_VALUE));
        DUE.is("make(0, 1)", 2, x.make(0, 1));
        DUE.is("drop(2)", 1, x.drop(2));
        DUE.is("make(0, 0): 2 comes never again", 3, x.make(0, 0));
        DUE.is("make(1, 2): 2 is gone", NONE, x.make(1, 2));
        DUE.is("make(1, 3): the wrong one took no number", 4, x.make(1, 3));
    }

    private static void makeOfEachKindInEachKind() {
        for (int kind = 1; kind < 9; kind++) {
            for (int in = 0; in < 9; in++) {
                BuildCounter x = oneOfEach();
                boolean right = x.about(in, 0) == PARENTS[kind];
                DUE.is("make(" + kind + ", " + in + ")", right ? 9 : NONE, x.make(kind, in));
                DUE.is("make(0, 0) behind it", right ? 10 : 9, x.make(0, 0));
            }
        }
    }

    private static void makeWithWrongArguments() {
        BuildCounter x = oneOfEach();
        for (int wrong : new int[] {-1, -2, 9, 10, Integer.MIN_VALUE, Integer.MAX_VALUE}) {
            DUE.is("make(" + wrong + ", 0)", NONE, x.make(wrong, 0));
        }
        for (int wrong : new int[] {-1, 9, 59, 60, 61, Integer.MIN_VALUE, Integer.MAX_VALUE}) {
            for (int kind = 1; kind < 9; kind++) {
                DUE.is("make(" + kind + ", " + wrong + ")", NONE, x.make(kind, wrong));
            }
        }
    }

    private static void makeAtMostSixty() {
        BuildCounter x = new BuildCounter();
        for (int n = 0; n < 60; n++) {
            DUE.is("make number " + n, n, n % 2 == 0 ? x.make(0, 0) : x.make(8, n - 1));
        }
        DUE.is("make(0, 0) with 60", NONE, x.make(0, 0));
        DUE.is("make(1, 0) with 60", NONE, x.make(1, 0));
        DUE.is("about(59, 1)", 58, x.about(59, 1));
        DUE.is("about(58, 3)", 1, x.about(58, 3));
        DUE.is("about(59, 3)", 0, x.about(59, 3));
        DUE.is("numbers(8)", 30, x.numbers(8));
        DUE.is("drop(58)", 2, x.drop(58));
        DUE.is("make(0, 0) after 60 were made", NONE, x.make(0, 0));
        DUE.is("make(1, 0) after 60 were made", NONE, x.make(1, 0));
        DUE.is("numbers(0)", 29, x.numbers(0));
    }

    private static void makeAndDropUnderABuild() {
        BuildCounter x = oneOfEach();
        DUE.is("make(0, 0)", 9, x.make(0, 0));
        DUE.yes("build(0, 1)", x.build(0, 1));
        DUE.is("make(1, 0) under a BUILD", NONE, x.make(1, 0));
        DUE.is("make(5, 2) under a BUILD", NONE, x.make(5, 2));
        DUE.is("make(7, 5) under a BUILD", NONE, x.make(7, 5));
        for (int number = 0; number < 9; number++) {
            DUE.is("drop(" + number + ") under a BUILD", NONE, x.drop(number));
        }
        DUE.is("make(0, 0): a HOUSE lies in nothing", 10, x.make(0, 0));
        DUE.is("make(1, 9): another HOUSE", 11, x.make(1, 9));
        DUE.is("drop(9): another HOUSE", 2, x.drop(9));
        DUE.is("turn(0)", 0, x.turn(0));
        DUE.is("make(5, 2) behind the BUILD", 12, x.make(5, 2));
        DUE.is("drop(2) behind the BUILD", 4, x.drop(2));
    }

    private static void dropTakesAllLevels() {
        BuildCounter x = oneOfEach();
        DUE.is("make(3, 1)", 9, x.make(3, 1));
        DUE.is("make(4, 9)", 10, x.make(4, 9));
        DUE.is("make(1, 0)", 11, x.make(1, 0));
        DUE.is("make(3, 11)", 12, x.make(3, 11));
        DUE.is("drop(3)", 1, x.drop(3));
        DUE.is("about(2, 3)", 1, x.about(2, 3));
        DUE.is("drop(1)", 5, x.drop(1));
        int[] gone = {1, 2, 3, 4, 9, 10};
        for (int number : gone) {
            DUE.is("about(" + number + ", 0)", NONE, x.about(number, 0));
            DUE.is("drop(" + number + ")", NONE, x.drop(number));
        }
        DUE.is("about(12, 1)", 11, x.about(12, 1));
        DUE.is("about(0, 3)", 4, x.about(0, 3));
        DUE.is("drop(0)", 7, x.drop(0));
        DUE.is("numbers(0)", 0, x.numbers(0));
        DUE.is("numbers(3)", 0, x.numbers(3));
    }

    private static void dropOfAHouseLeavesTheOthers() {
        BuildCounter x = new BuildCounter();
        x.make(0, 0);
        x.make(0, 0);
        x.make(1, 1);
        x.make(1, 0);
        x.make(3, 2);
        x.make(3, 3);
        DUE.is("drop(0)", 3, x.drop(0));
        DUE.is("about(1, 3)", 1, x.about(1, 3));
        DUE.is("about(4, 2)", 1, x.about(4, 2));
        DUE.is("about(5, 2)", NONE, x.about(5, 2));
        DUE.is("numbers(3)", 1, x.numbers(3));
    }

    private static void dropWithWrongArguments() {
        BuildCounter x = oneOfEach();
        for (int wrong : WRONG) {
            DUE.is("drop(" + wrong + ")", NONE, x.drop(wrong));
        }
        DUE.is("drop(9): not made yet", NONE, x.drop(9));
        DUE.is("numbers(0)", 1, x.numbers(0));
    }

    private static void numbersOfKinds() {
        BuildCounter x = oneOfEach();
        for (int kind = 0; kind < 9; kind++) {
            DUE.is("numbers(" + kind + ")", 1, x.numbers(kind));
        }
        x.make(3, 1);
        DUE.is("numbers(3)", 2, x.numbers(3));
        x.drop(2);
        DUE.is("numbers(3)", 1, x.numbers(3));
        DUE.is("numbers(4)", 0, x.numbers(4));
        DUE.is("numbers(5)", 0, x.numbers(5));
        for (int wrong : new int[] {-1, 9, 10, Integer.MIN_VALUE, Integer.MAX_VALUE}) {
            DUE.is("numbers(" + wrong + ")", NONE, x.numbers(wrong));
        }
    }

    private static void aboutThings() {
        BuildCounter x = oneOfEach();
        x.make(0, 0);
        x.make(6, 9);
        x.make(7, 10);
        int[][] rows = {
            {0, NONE, 0, 4}, {1, 0, 0, 1}, {3, 1, 0, 2}, {4, 2, 0, 0}, {5, 2, 0, 0}, {6, 0, 0, 1},
            {7, 5, 0, 0}, {2, 0, 0, 0}, {8, 0, 0, 0}, {0, NONE, 9, 1}, {6, 9, 9, 1}, {7, 10, 9, 0}};
        for (int number = 0; number < rows.length; number++) {
            for (int what = 0; what < 4; what++) {
                DUE.is("about(" + number + ", " + what + ")", rows[number][what], x.about(number, what));
            }
            for (int wrong : new int[] {-1, 4, Integer.MIN_VALUE, Integer.MAX_VALUE}) {
                DUE.is("about(" + number + ", " + wrong + ")", NONE, x.about(number, wrong));
            }
        }
        for (int wrong : WRONG) {
            for (int what = -1; what < 5; what++) {
                DUE.is("about(" + wrong + ", " + what + ")", NONE, x.about(wrong, what));
            }
        }
        DUE.is("about(12, 3): not made yet", NONE, x.about(12, 3));
    }
}
