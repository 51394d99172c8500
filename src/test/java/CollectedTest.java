import java.math.BigInteger;

/** Promises 6 and 7: collect, collected; and what 'Terms' says of what is COLLECTED and of the SUM. */
public final class CollectedTest {
    private static final Due DUE = new Due();
    private static final int NONE = BuildCounter.NONE;
    private static final int[] MOST = {30, 20, 20};
    /** By SORT: a number that is so. */
    private static final int[] SO = {126, 122, 255};
    private static final int[] NO_SORTS_BELOW = {-1, -2, Integer.MIN_VALUE};
    private static final int[] NO_SORTS_ABOVE = {3, 4, Integer.MAX_VALUE};

    public static void main(String[] args) {
        whatIsSo();
        howMany();
        sums();
        DUE.end();
    }

    private static void whatIsSo() {
        DUE.test("Terms: a TEXT, numbers from 32 on", () -> edge(0, 31, 32));
        DUE.test("Terms: a TEXT, numbers up to 126", () -> edge(0, 127, 126));
        DUE.test("Terms: a PATH, numbers from 97 on", () -> edge(1, 96, 97));
        DUE.test("Terms: a PATH, numbers up to 122", () -> edge(1, 123, 122));
        DUE.test("Terms: a PATH, 46 and nothing below", () -> edge(1, 45, 46));
        DUE.test("Terms: a PATH, 47 and nothing above", () -> edge(1, 48, 47));
        DUE.test("Terms: BYTES, numbers from 0 on", () -> edge(2, -1, 0));
        DUE.test("Terms: BYTES, numbers up to 255", () -> edge(2, 256, 255));
        DUE.test("6: NONE if the number isn't so (each of a TEXT)", () -> eachNumber(0));
        DUE.test("6: NONE if the number isn't so (each of a PATH)", () -> eachNumber(1));
        DUE.test("6: NONE if the number isn't so (each of BYTES)", () -> eachNumber(2));
        DUE.test("6: NONE if the number isn't so (far off)", CollectedTest::numbersFarOff);
        DUE.test("6: NONE if the number isn't so, and it doesn't come", CollectedTest::wrongNumberDoesNotCome);
    }

    private static void howMany() {
        DUE.test("6: how many there are", CollectedTest::collectTellsHowMany);
        DUE.test("6: NONE if there is no such SORT (too small)", () -> collectOfNoSort(NO_SORTS_BELOW));
        DUE.test("6: NONE if there is no such SORT (too large)", () -> collectOfNoSort(NO_SORTS_ABOVE));
        DUE.test("6: NONE if there is no room (Terms: a TEXT of at most 30)", () -> full(0, 30));
        DUE.test("6: NONE if there is no room (Terms: a PATH of at most 20)", () -> full(1, 20));
        DUE.test("6: NONE if there is no room (Terms: BYTES, at most 20)", () -> full(2, 20));
        DUE.test("6: NONE if there is no room, and it doesn't come", CollectedTest::noRoomAndItDoesNotCome);
        DUE.test("6: room again for what was taken", CollectedTest::roomAgain);
        DUE.test("6: what is COLLECTED of a SORT, each for itself", CollectedTest::sortsAreApart);
        DUE.test("7: how many are COLLECTED of a SORT", CollectedTest::collectedTellsHowMany);
        DUE.test("7: how many, with none", CollectedTest::collectedWithNone);
        DUE.test("7: how many, with all that have room", CollectedTest::collectedWhenFull);
        DUE.test("7: how many, when they were taken", CollectedTest::collectedWhenTaken);
        DUE.test("7: NONE if there is none such (too small)", () -> collectedOfNoSort(NO_SORTS_BELOW));
        DUE.test("7: NONE if there is none such (too large)", () -> collectedOfNoSort(NO_SORTS_ABOVE));
    }

    private static void sums() {
        DUE.test("Terms: the SUM, 0 at first", CollectedTest::sumBeginsAtZero);
        DUE.test("Terms: the SUM, 0 at first, also behind one that was taken", CollectedTest::sumBeginsAnew);
        DUE.test("Terms: the SUM, for each number, the number and 1", CollectedTest::sumOfOne);
        DUE.test("Terms: the SUM, 31 times that", CollectedTest::sumOfTwo);
        DUE.test("Terms: the SUM, from the first one on", CollectedTest::sumInOrder);
        DUE.test("Terms: the SUM, modulo 2 to the 64 (a full TEXT)", () -> longestSum(0));
        DUE.test("Terms: the SUM, modulo 2 to the 64 (a full PATH)", () -> longestSum(1));
        DUE.test("Terms: the SUM, modulo 2 to the 64 (full BYTES)", () -> longestSum(2));
        DUE.test("Terms: the SUM, beyond 2 to the 32, 63 and 64", CollectedTest::sumOfEachLength);
    }

    private static void collect(BuildCounter x, int due, int sort, int v) {
        DUE.is("collect(" + sort + ", " + v + ")", due, x.collect(sort, v));
    }

    private static void collected(BuildCounter x, int due, int sort) {
        DUE.is("collected(" + sort + ")", due, x.collected(sort));
    }

    private static BuildCounter fullOf(int sort) {
        BuildCounter x = new BuildCounter();
        for (int n = 0; n < MOST[sort]; n++) {
            x.collect(sort, SO[sort]);
        }
        return x;
    }

    /** HOUSE 0, and for each SORT the CALL of its number, which tells its SUM. */
    private static BuildCounter summing() {
        BuildCounter x = Scene.houses(1);
        for (int sort = 0; sort < 3; sort++) {
            x.define(sort, 0, sort, 0, 0);
        }
        return x;
    }

    private static void sum(long due, int sort, int... numbers) {
        BuildCounter x = summing();
        for (int v : numbers) {
            x.collect(sort, v);
        }
        DUE.is("the SUM of SORT " + sort + ", " + java.util.Arrays.toString(numbers), due, x.call(sort, 0, 0));
    }

    private static void edge(int sort, int without, int within) {
        BuildCounter x = new BuildCounter();
        collect(x, NONE, sort, without);
        collected(x, 0, sort);
        collect(x, 1, sort, within);
        collected(x, 1, sort);
    }

    private static boolean isSo(int sort, int v) {
        switch (sort) {
            case 0: return 32 <= v && v <= 126;
            case 1: return "abcdefghijklmnopqrstuvwxyz./".indexOf(v) >= 0;
            default: return 0 <= v && v <= 255;
        }
    }

    private static void eachNumber(int sort) {
        for (int v = -3; v < 300; v++) {
            BuildCounter x = new BuildCounter();
            collect(x, isSo(sort, v) ? 1 : NONE, sort, v);
            collected(x, isSo(sort, v) ? 1 : 0, sort);
        }
    }

    private static void numbersFarOff() {
        BuildCounter x = new BuildCounter();
        for (int sort = 0; sort < 3; sort++) {
            for (int v : new int[] {Integer.MIN_VALUE, Integer.MAX_VALUE, 256 + 97, 65536 + 97, -159, -97}) {
                collect(x, NONE, sort, v);
            }
        }
    }

    private static void wrongNumberDoesNotCome() {
        sum(31 * 5 + 6, 2, 4, 256, 5, -1);
        sum(31 * 33 + 34, 0, 32, 127, 33, 31);
        sum(31 * 48 + 47, 1, 47, 48, 46, 45);
    }

    private static void collectTellsHowMany() {
        for (int sort = 0; sort < 3; sort++) {
            BuildCounter x = new BuildCounter();
            for (int n = 1; n <= MOST[sort]; n++) {
                collect(x, n, sort, SO[sort]);
            }
        }
    }

    private static void collectOfNoSort(int[] sorts) {
        BuildCounter x = new BuildCounter();
        for (int sort : sorts) {
            collect(x, NONE, sort, 97);
        }
        for (int sort = 0; sort < 3; sort++) {
            collected(x, 0, sort);
        }
    }

    private static void full(int sort, int most) {
        BuildCounter x = new BuildCounter();
        for (int n = 1; n <= most; n++) {
            collect(x, n, sort, SO[sort]);
        }
        collect(x, NONE, sort, SO[sort]);
        collect(x, NONE, sort, SO[sort]);
        collected(x, most, sort);
    }

    private static void noRoomAndItDoesNotCome() {
        for (int sort = 0; sort < 3; sort++) {
            BuildCounter x = summing();
            BuildCounter y = summing();
            for (int n = 0; n < MOST[sort]; n++) {
                x.collect(sort, SO[sort]);
                y.collect(sort, SO[sort]);
            }
            collect(y, NONE, sort, 97);
            DUE.is("the SUM of a full SORT " + sort, x.call(sort, 0, 0), y.call(sort, 0, 0));
        }
    }

    private static void roomAgain() {
        for (int sort = 0; sort < 3; sort++) {
            BuildCounter x = summing();
            for (int n = 0; n < MOST[sort]; n++) {
                x.collect(sort, SO[sort]);
            }
            x.call(sort, 0, 0);
            for (int n = 1; n <= MOST[sort]; n++) {
                collect(x, n, sort, SO[sort]);
            }
            collect(x, NONE, sort, SO[sort]);
        }
    }

    private static void sortsAreApart() {
        for (int sort = 0; sort < 3; sort++) {
            BuildCounter x = fullOf(sort);
            for (int other = 0; other < 3; other++) {
                collect(x, other == sort ? NONE : 1, other, 97);
            }
            collected(x, MOST[sort], sort);
        }
    }

    private static void collectedTellsHowMany() {
        for (int sort = 0; sort < 3; sort++) {
            BuildCounter x = new BuildCounter();
            for (int n = 1; n <= MOST[sort]; n++) {
                x.collect(sort, SO[sort]);
                collected(x, n, sort);
            }
        }
    }

    private static void collectedWithNone() {
        for (int sort = 0; sort < 3; sort++) {
            collected(new BuildCounter(), 0, sort);
        }
    }

    private static void collectedWhenFull() {
        for (int sort = 0; sort < 3; sort++) {
            BuildCounter x = fullOf(sort);
            x.collect(sort, 97);
            collected(x, MOST[sort], sort);
        }
    }

    private static void collectedWhenTaken() {
        for (int sort = 0; sort < 3; sort++) {
            BuildCounter x = summing();
            x.collect(sort, 97);
            x.collect(sort, 98);
            x.call(sort, 0, 0);
            collected(x, 0, sort);
        }
    }

    private static void collectedOfNoSort(int[] sorts) {
        BuildCounter x = new BuildCounter();
        x.collect(0, 97);
        x.collect(2, 97);
        for (int sort : sorts) {
            collected(x, NONE, sort);
        }
    }

    private static void sumBeginsAtZero() {
        sum(1, 2, 0);
        sum(33, 0, 32);
        sum(47, 1, 46);
    }

    private static void sumBeginsAnew() {
        BuildCounter x = summing();
        for (int n = 0; n < 4; n++) {
            x.collect(2, n);
            DUE.is("the SUM of one BYTE " + n, n + 1, x.call(2, 0, 0));
        }
    }

    private static void sumOfOne() {
        for (int v = 0; v < 256; v++) {
            sum(v + 1, 2, v);
        }
    }

    private static void sumOfTwo() {
        sum(32, 2, 0, 0);
        sum(31 * 256 + 256, 2, 255, 255);
        sum(31 * 33 + 127, 0, 32, 126);
        sum((31 * 98 + 48) * 31 + 99, 1, 97, 47, 98);
    }

    private static void sumInOrder() {
        sum(31 * 2 + 3, 2, 1, 2);
        sum(31 * 3 + 2, 2, 2, 1);
        sum((31 * 3 + 2) * 31 + 1, 2, 2, 1, 0);
    }

    private static long sumOf(int[] numbers) {
        BigInteger sum = BigInteger.ZERO;
        for (int v : numbers) {
            sum = sum.multiply(BigInteger.valueOf(31)).add(BigInteger.valueOf(v)).add(BigInteger.ONE);
        }
        return sum.longValue();
    }

    private static void longestSum(int sort) {
        int[] numbers = new int[MOST[sort]];
        for (int n = 0; n < numbers.length; n++) {
            numbers[n] = SO[sort] - n % 20;
        }
        sum(sumOf(numbers), sort, numbers);
    }

    private static void sumOfEachLength() {
        for (int length = 1; length <= 20; length++) {
            int[] numbers = new int[length];
            java.util.Arrays.fill(numbers, 255);
            sum(sumOf(numbers), 2, numbers);
        }
    }
}
