/** Objects with which tests begin. */
final class Scene {
    static final int NONE = BuildCounter.NONE;
    static final long MIN = Long.MIN_VALUE;
    static final long MAX = Long.MAX_VALUE;
    /** Numbers that no thing ever bears. */
    static final int[] NEVER_A_NUMBER = {-1, -2, 60, 61, Integer.MIN_VALUE, Integer.MAX_VALUE};
    /** By KIND: the KIND in which it lies. */
    static final int[] PLACES = {NONE, 0, 0, 1, 3, 3, 0, 6, 0};

    private Scene() { }

    /** The things of these KINDS, each in the thing told beside it. */
    static BuildCounter of(int[]... kindsAndPlaces) {
        BuildCounter x = new BuildCounter();
        for (int[] each : kindsAndPlaces) {
            x.make(each[0], each[1]);
        }
        return x;
    }

    /** So many HOUSES, numbered from 0. */
    static BuildCounter houses(int many) {
        BuildCounter x = new BuildCounter();
        for (int n = 0; n < many; n++) {
            x.make(0, NONE);
        }
        return x;
    }

    /** 0 HOUSE, 1 TREE, 2 TARGET, 3 ACTION, 4 TEST, 5 PIPELINE, 6 JOB, 7 REGISTRY, 8 RELEASE. */
    static BuildCounter oneOfEach() {
        return of(new int[][] {{0, 0}, {1, 0}, {3, 1}, {4, 2}, {5, 2}, {6, 0}, {7, 5}, {2, 0}, {8, 0}});
    }

    /** 0 HOUSE, 1 TREE, 2 TARGET, 3 TEST, 4 ACTION, 5 TARGET, 6 ACTION. */
    static BuildCounter works() {
        return of(new int[][] {{0, 0}, {1, 0}, {3, 1}, {5, 2}, {4, 2}, {3, 1}, {4, 5}});
    }

    /** So many CALLS of number 0 that WAIT in HOUSE 0, with w 1 and up, each with one BYTE taken. */
    static BuildCounter waiting(int many) {
        BuildCounter x = houses(2);
        x.define(0, 0, 2, 0, 9);
        x.build(0, 2);
        for (int n = 0; n < many; n++) {
            x.collect(2, 0);
            x.call(0, 0, n);
        }
        return x;
    }
}
