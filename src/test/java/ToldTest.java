/** Promises 15 to 17: told, value, count. */
public final class ToldTest {
    private static final Due DUE = new Due();
    private static final int NONE = BuildCounter.NONE;

    public static void main(String[] args) {
        eachFate();
        onlyCallsAreTold();
        theLatestForty();
        wrongArguments();
        countsGoOnBeyondForty();
        aTurnMayTellMoreThanForty();
        DUE.end();
    }

    private static void row(BuildCounter x, int i, long... due) {
        for (int what = 0; what < 3; what++) {
            DUE.is("told(" + i + ", " + what + ")", due[what], x.told(i, what));
        }
        DUE.is("value(" + i + ")", due[3], x.value(i));
    }

    private static void counts(BuildCounter x, long... due) {
        for (int what = 0; what < due.length; what++) {
            DUE.is("count(" + what + ")", due[what], x.count(what));
        }
    }

    private static void eachFate() {
        BuildCounter x = new BuildCounter();
        x.make(0, 0);
        x.make(2, 0);
        x.define(6, 2, 2, 0, 99);
        x.call(6, 1, -1);
        row(x, 0, 4, 1, 6, -2);
        counts(x, 1, 0, 0, 1, 0);
        x.collect(2, 0);
        for (int sort = 1; sort <= 3; sort++) {
            x.fails(6, sort, 1);
            x.call(6, 1, 0);
            row(x, 0, sort, 1, 6, -10 - sort);
            counts(x, 1 + sort, 0, sort, 1, 0);
        }
        x.call(6, 1, 41);
        row(x, 0, 0, 1, 6, 42);
        counts(x, 5, 1, 3, 1, 0);
        x.collect(2, 0);
        x.build(0, 1);
        x.call(6, 1, 50);
        row(x, 0, 5, 1, 6, -5);
        counts(x, 6, 1, 3, 1, 1);
        x.call(-7, 77, 50);
        row(x, 0, 4, 77, -7, -1);
        counts(x, 7, 1, 3, 2, 1);
        x.turn(0);
        row(x, 0, 0, 1, 6, 51);
        counts(x, 8, 2, 3, 2, 1);
        row(x, 1, 4, 77, -7, -1);
        row(x, 2, 5, 1, 6, -5);
        row(x, 7, 4, 1, 6, -2);
    }

    private static void onlyCallsAreTold() {
        BuildCounter x = new BuildCounter();
        x.make(0, 0);
        x.make(9, 0);
        x.define(0, 0, NONE, 0, 9);
        x.answer(0, 4);
        x.answer(3, 4);
        x.fails(0, 1, 1);
        x.fails(0, 4, 1);
        x.collect(0, 1);
        x.build(0, 1);
        x.turn(0);
        x.turn(0);
        x.drop(0);
        counts(x, 0, 0, 0, 0, 0);
        row(x, 0, NONE, NONE, NONE, 0);
    }

    private static void theLatestForty() {
        BuildCounter x = new BuildCounter();
        x.make(0, 0);
        x.define(0, 0, NONE, 0, 1000);
        for (int n = 1; n <= 95; n++) {
            x.call(0, 0, n);
            int kept = Math.min(n, 40);
            DUE.is("value(0)", n, x.value(0));
            DUE.is("value(" + (kept - 1) + ")", n - kept + 1, x.value(kept - 1));
            row(x, kept, NONE, NONE, NONE, 0);
        }
        for (int i = 0; i < 40; i++) {
            row(x, i, 0, 0, 0, 95 - i);
        }
        row(x, 40, NONE, NONE, NONE, 0);
    }

    private static void wrongArguments() {
        BuildCounter x = new BuildCounter();
        x.call(3, 4, 5);
        for (int wrong : new int[] {-1, 1, 2, 39, 40, 41, Integer.MIN_VALUE, Integer.MAX_VALUE}) {
            row(x, wrong, NONE, NONE, NONE, 0);
        }
        for (int wrong : new int[] {-1, 3, 4, Integer.MIN_VALUE, Integer.MAX_VALUE}) {
            DUE.is("told(0, " + wrong + ")", NONE, x.told(0, wrong));
        }
        for (int wrong : new int[] {-1, 5, 6, Integer.MIN_VALUE, Integer.MAX_VALUE}) {
            DUE.is("count(" + wrong + ")", NONE, x.count(wrong));
        }
        row(x, 0, 4, 4, 3, -1);
    }

    private static void countsGoOnBeyondForty() {
        BuildCounter x = new BuildCounter();
        x.make(0, 0);
        x.define(0, 0, NONE, 0, 9);
        x.fails(0, 1, 9);
        for (int n = 0; n < 100; n++) {
            x.call(0, 0, n % 2 == 0 ? 5 : 10);
        }
        counts(x, 100, 41, 9, 50, 0);
    }

    private static void aTurnMayTellMoreThanForty() {
        BuildCounter x = new BuildCounter();
        x.make(0, 0);
        x.make(1, 0);
        x.make(3, 1);
        for (int n = 3; n < 60; n++) {
            x.make(4, 2);
        }
        x.define(0, 4, NONE, 0, 0);
        x.build(0, 1);
        DUE.is("turn(0)", 57, x.turn(0));
        for (int i = 0; i < 40; i++) {
            row(x, i, 0, 59 - i, 0, 1);
        }
        row(x, 40, NONE, NONE, NONE, 0);
        counts(x, 57, 57, 0, 0, 0);
    }
}
