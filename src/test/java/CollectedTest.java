/** Promises 6 and 7: collect, collected; and the SUM, as a CALL tells it. */
public final class CollectedTest {
    private static final Due DUE = new Due();
    private static final int NONE = BuildCounter.NONE;
    private static final int[] MOST = {30, 20, 20};
    private static final int[] FIT = {32, 97, 0};

    public static void main(String[] args) {
        whichNumbersFit();
        extremeNumbers();
        howManyFit();
        sortsAreApart();
        wrongSorts();
        sums();
        aLongSumWrapsRound();
        DUE.end();
    }

    private static boolean fits(int sort, int v) {
        switch (sort) {
            case 0: return 32 <= v && v <= 126;
            case 1: return "abcdefghijklmnopqrstuvwxyz./".indexOf(v) >= 0;
            default: return 0 <= v && v <= 255;
        }
    }

    private static void whichNumbersFit() {
        for (int sort = 0; sort < 3; sort++) {
            for (int v = -3; v < 300; v++) {
                BuildCounter x = new BuildCounter();
                int due = fits(sort, v) ? 1 : NONE;
                DUE.is("collect(" + sort + ", " + v + ")", due, x.collect(sort, v));
                DUE.is("collected(" + sort + ")", Math.max(0, due), x.collected(sort));
            }
        }
    }

    private static void extremeNumbers() {
        BuildCounter x = new BuildCounter();
        for (int sort = 0; sort < 3; sort++) {
            for (int v : new int[] {Integer.MIN_VALUE, Integer.MAX_VALUE, 65536 + 97, -159}) {
                DUE.is("collect(" + sort + ", " + v + ")", NONE, x.collect(sort, v));
            }
        }
    }

    private static void howManyFit() {
        for (int sort = 0; sort < 3; sort++) {
            BuildCounter x = new BuildCounter();
            for (int n = 1; n <= MOST[sort]; n++) {
                DUE.is("collect(" + sort + ", fit) number " + n, n, x.collect(sort, FIT[sort]));
                DUE.is("collected(" + sort + ")", n, x.collected(sort));
            }
            DUE.is("collect(" + sort + ", fit) without room", NONE, x.collect(sort, FIT[sort]));
            DUE.is("collected(" + sort + ")", MOST[sort], x.collected(sort));
        }
    }

    private static void sortsAreApart() {
        BuildCounter x = new BuildCounter();
        for (int n = 1; n <= 20; n++) {
            DUE.is("collect(1, 47)", n, x.collect(1, 47));
        }
        DUE.is("collected(0)", 0, x.collected(0));
        DUE.is("collected(2)", 0, x.collected(2));
        DUE.is("collect(2, 47)", 1, x.collect(2, 47));
        DUE.is("collect(0, 47)", 1, x.collect(0, 47));
        DUE.is("collected(1)", 20, x.collected(1));
    }

    private static void wrongSorts() {
        BuildCounter x = new BuildCounter();
        for (int wrong : new int[] {-1, -2, 3, 4, Integer.MIN_VALUE, Integer.MAX_VALUE}) {
            DUE.is("collect(" + wrong + ", 97)", NONE, x.collect(wrong, 97));
            DUE.is("collected(" + wrong + ")", NONE, x.collected(wrong));
        }
    }

    private static long sumOf(int sort, int... numbers) {
        BuildCounter x = new BuildCounter();
        x.make(0, 0);
        x.define(0, 0, sort, 0, 0);
        for (int v : numbers) {
            x.collect(sort, v);
        }
        return x.call(0, 0, 0);
    }

    private static void sums() {
        DUE.is("SUM of 0", 1, sumOf(2, 0));
        DUE.is("SUM of 0, 0", 32, sumOf(2, 0, 0));
        DUE.is("SUM of 255", 256, sumOf(2, 255));
        DUE.is("SUM of 1, 2", 31 * 2 + 3, sumOf(2, 1, 2));
        DUE.is("SUM of 2, 1", 31 * 3 + 2, sumOf(2, 2, 1));
        DUE.is("SUM of a/b", (31 * 98 + 48) * 31 + 99, sumOf(1, 97, 47, 98));
        DUE.is("SUM of ' ~'", 31 * 33 + 127, sumOf(0, 32, 126));
        DUE.is("SUM of 4 and a number that doesn't fit", 5, sumOf(2, 4, 256));
    }

    private static void aLongSumWrapsRound() {
        int[] numbers = new int[31];
        java.math.BigInteger sum = java.math.BigInteger.ZERO;
        for (int n = 0; n < numbers.length; n++) {
            numbers[n] = 126 - n;
            if (n < 30) {
                sum = sum.multiply(java.math.BigInteger.valueOf(31)).add(java.math.BigInteger.valueOf(numbers[n] + 1));
            }
        }
        DUE.is("SUM of 30 (the 31st has no room)", sum.longValue(), sumOf(0, numbers));
    }
}
