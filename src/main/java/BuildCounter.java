/** The desk over a build house. What it must do stands, promise by promise, in ../shared/DOC.md. */
public final class BuildCounter {
    public static final int NONE = -1;

    private static final int HOUSE = 0;
    private static final int TREE = 1;
    private static final int TARGET = 3;
    private static final int ACTION = 4;
    private static final int TEST = 5;
    private static final int PIPELINE = 6;
    /** For each KIND the KIND of thing in which it lies. */
    private static final int[] LIES_IN = {NONE, HOUSE, HOUSE, TREE, TARGET, TARGET, HOUSE, PIPELINE, HOUSE};
    private static final int MOST_THINGS = 60;

    private static final int TEXT = 0;
    private static final int PATH = 1;
    /** For each SORT how many may be COLLECTED. */
    private static final int[] MOST_COLLECTED = {30, 20, 20};

    private static final int CALLS = 12;
    private static final int MOST_ANSWERS = 5;
    private static final int LAST_FAILURE = 3;
    private static final int MOST_FAILURES = 9;
    private static final int MOST_TURNS = 9;
    private static final int MOST_WAITING = 6;
    private static final int MOST_TOLD = 40;

    /** What became of a CALL; 1 to 3 between these are the SORTS by which it FAILED. */
    private static final int ANSWERED = 0;
    private static final int REFUSED = 4;
    private static final int WAITS = 5;

    private static final long NO_REFUSAL = 0;
    private static final long NOT_FOR_THIS = -1;
    private static final long OUT_OF_RANGE = -2;
    private static final long NOTHING_COLLECTED = -3;
    private static final long NO_ROOM_TO_WAIT = -4;
    private static final long WAITING = -5;
    private static final long FAILED = -10;

    /** By number; null where a thing is not made yet or was dropped. */
    private final Thing[] things;
    private int made;
    private final Collected collection;
    /** By CALL; null where it is not DEFINED. */
    private final Part[] parts;
    private final Told history;

    public BuildCounter() {
        things = new Thing[MOST_THINGS];
        made = 0;
        collection = new Collected();
        parts = new Part[CALLS];
        history = new Told();
    }

    public int make(int kind, int in) {
        if (!isKind(kind) || made >= MOST_THINGS) {
            return NONE;
        }
        if (kind == HOUSE) {
            return keep(new Thing(HOUSE, NONE, made, new Build()));
        }
        Thing around = thingAt(in);
        if (around == null || around.kind != LIES_IN[kind] || around.build.isOn()) {
            return NONE;
        }
        return keep(new Thing(kind, in, around.house, around.build));
    }

    public int drop(int number) {
        Thing thing = thingAt(number);
        if (thing == null || thing.build.isOn()) {
            return NONE;
        }
        things[number] = null;
        int dropped = 1;
        // What lies in a thing was made after it, so one way up the numbers meets every level.
        for (int n = number + 1; n < made; n++) {
            if (hasLostItsPlace(things[n])) {
                things[n] = null;
                dropped++;
            }
        }
        return dropped;
    }

    public int numbers(int kind) {
        if (!isKind(kind)) {
            return NONE;
        }
        int found = 0;
        for (int n = 0; n < made; n++) {
            if (things[n] != null && things[n].kind == kind) {
                found++;
            }
        }
        return found;
    }

    public int about(int number, int what) {
        Thing thing = thingAt(number);
        if (thing == null) {
            return NONE;
        }
        switch (what) {
            case 0:
                return thing.kind;
            case 1:
                return thing.in;
            case 2:
                return thing.house;
            case 3:
                return lyingJustIn(number);
            default:
                return NONE;
        }
    }

    public int collect(int sort, int v) {
        if (!isSort(sort) || !fits(sort, v) || collection.isFull(sort)) {
            return NONE;
        }
        collection.append(sort, v);
        return collection.size(sort);
    }

    public int collected(int sort) {
        return isSort(sort) ? collection.size(sort) : NONE;
    }

    public boolean define(int call, int kind, int wants, long low, long high) {
        if (!isCall(call) || !isKind(kind) || !(wants == NONE || isSort(wants)) || low > high) {
            return false;
        }
        // The row of an earlier definition is used again, so that many definitions make no new rows.
        if (parts[call] == null) {
            parts[call] = new Part();
        }
        parts[call].begin(kind, wants, low, high);
        return true;
    }

    public int answer(int call, long v) {
        Part part = partAt(call);
        if (part == null || part.answers >= MOST_ANSWERS) {
            return NONE;
        }
        part.addToTable(v);
        return part.answers;
    }

    public boolean fails(int call, int sort, int times) {
        Part part = partAt(call);
        if (part == null || sort < 1 || sort > LAST_FAILURE || times < 0 || times > MOST_FAILURES) {
            return false;
        }
        part.failureSort = sort;
        part.failuresDue = times;
        return true;
    }

    public long call(int call, int number, long a) {
        Part part = partAt(call);
        Thing thing = thingAt(number);
        if (part == null || thing == null || thing.kind != part.kind) {
            return tell(REFUSED, number, call, NOT_FOR_THIS);
        }
        long refusal = refusalOf(part, thing.build, a);
        if (refusal != NO_REFUSAL) {
            return tell(REFUSED, number, call, refusal);
        }
        long w = a + collection.sum(part.wants);
        if (part.wants != NONE && thing.build.isOn()) {
            collection.empty(part.wants);
            thing.build.queue(call, number, w);
            return tell(WAITS, number, call, WAITING);
        }
        int outcome = part.outcome();
        if (outcome != ANSWERED) {
            // What it wanted was not emptied yet, so it is COLLECTED still, as is due after a FAILURE.
            return tell(outcome, number, call, FAILED - outcome);
        }
        collection.empty(part.wants);
        return tell(ANSWERED, number, call, part.reply(w));
    }

    public boolean build(int house, int turns) {
        Thing thing = houseAt(house);
        if (thing == null || thing.build.isOn() || turns < 1 || turns > MOST_TURNS) {
            return false;
        }
        thing.build.begin(turns);
        return true;
    }

    public int turn(int house) {
        Thing thing = houseAt(house);
        if (thing == null || !thing.build.isOn()) {
            return NONE;
        }
        int turnNumber = thing.build.nextTurn();
        int callOfActions = leastCallFor(ACTION);
        int callOfTests = leastCallFor(TEST);
        int answered = 0;
        for (int n = house + 1; n < made; n++) {
            int call = callInTurn(things[n], house, callOfActions, callOfTests);
            if (goes(call, n, turnNumber)) {
                answered++;
            }
        }
        if (!thing.build.isOn()) {
            letWaitingGo(thing.build);
        }
        return answered;
    }

    public int building(int house, int what) {
        Thing thing = houseAt(house);
        if (thing == null) {
            return NONE;
        }
        switch (what) {
            case 0:
                return thing.build.turnsLeft;
            case 1:
                return thing.build.waiting;
            default:
                return NONE;
        }
    }

    public int told(int i, int what) {
        int spot = history.spotOf(i);
        if (spot == NONE) {
            return NONE;
        }
        switch (what) {
            case 0:
                return history.fates[spot];
            case 1:
                return history.numbers[spot];
            case 2:
                return history.calls[spot];
            default:
                return NONE;
        }
    }

    public long value(int i) {
        int spot = history.spotOf(i);
        return spot == NONE ? 0 : history.values[spot];
    }

    public int count(int what) {
        switch (what) {
            case 0:
                return history.inAll;
            case 1:
                return history.answered;
            case 2:
                return history.failed;
            case 3:
                return history.refused;
            case 4:
                return history.cameToWait;
            default:
                return NONE;
        }
    }

    private static boolean isKind(int kind) {
        return kind >= 0 && kind < LIES_IN.length;
    }

    private static boolean isSort(int sort) {
        return sort >= 0 && sort < MOST_COLLECTED.length;
    }

    private static boolean isCall(int call) {
        return call >= 0 && call < CALLS;
    }

    private static boolean fits(int sort, int v) {
        if (sort == TEXT) {
            return v >= 32 && v <= 126;
        }
        if (sort == PATH) {
            return v >= 'a' && v <= 'z' || v == '.' || v == '/';
        }
        return v >= 0 && v <= 255;
    }

    private Thing thingAt(int number) {
        return number >= 0 && number < MOST_THINGS ? things[number] : null;
    }

    private Thing houseAt(int number) {
        Thing thing = thingAt(number);
        return thing != null && thing.kind == HOUSE ? thing : null;
    }

    private Part partAt(int call) {
        return isCall(call) ? parts[call] : null;
    }

    private int keep(Thing thing) {
        things[made] = thing;
        made++;
        return made - 1;
    }

    private boolean hasLostItsPlace(Thing thing) {
        return thing != null && thing.kind != HOUSE && thingAt(thing.in) == null;
    }

    private int lyingJustIn(int number) {
        int found = 0;
        for (int n = number + 1; n < made; n++) {
            if (things[n] != null && things[n].in == number) {
                found++;
            }
        }
        return found;
    }

    private long refusalOf(Part part, Build build, long a) {
        if (a < part.low || a > part.high) {
            return OUT_OF_RANGE;
        }
        if (part.wants == NONE) {
            return NO_REFUSAL;
        }
        if (collection.size(part.wants) == 0) {
            return NOTHING_COLLECTED;
        }
        return build.isOn() && build.isFull() ? NO_ROOM_TO_WAIT : NO_REFUSAL;
    }

    private long tell(int fate, int number, int call, long value) {
        history.add(fate, number, call, value);
        return value;
    }

    private int leastCallFor(int kind) {
        for (int c = 0; c < CALLS; c++) {
            if (parts[c] != null && parts[c].kind == kind) {
                return c;
            }
        }
        return NONE;
    }

    private static int callInTurn(Thing thing, int house, int callOfActions, int callOfTests) {
        if (thing == null || thing.house != house) {
            return NONE;
        }
        if (thing.kind == ACTION) {
            return callOfActions;
        }
        return thing.kind == TEST ? callOfTests : NONE;
    }

    /** A CALL GOES from inside, in a TURN or behind a BUILD: whether it answered. */
    private boolean goes(int call, int number, long w) {
        Part part = partAt(call);
        if (part == null) {
            return false;
        }
        int outcome = part.outcome();
        tell(outcome, number, call, outcome == ANSWERED ? part.reply(w) : 0);
        return outcome == ANSWERED;
    }

    private void letWaitingGo(Build build) {
        for (int i = 0; i < build.waiting && i < MOST_WAITING; i++) {
            goes(build.calls[i], build.numbers[i], build.ws[i]);
        }
        build.waiting = 0;
    }

    private static final class Thing {
        private final int kind;
        private final int in;
        private final int house;
        /** The row of the HOUSE's BUILD, shared by all that lies in the HOUSE. */
        private final Build build;

        Thing(int kind, int in, int house, Build build) {
            this.kind = kind;
            this.in = in;
            this.house = house;
            this.build = build;
        }
    }

    /** What is COLLECTED. Only the SUM is ever asked of the numbers, so they themselves are not kept. */
    private static final class Collected {
        private final int[] sizes = new int[MOST_COLLECTED.length];
        private final long[] sums = new long[MOST_COLLECTED.length];

        int size(int sort) {
            return isSort(sort) ? sizes[sort] : 0;
        }

        long sum(int sort) {
            return isSort(sort) ? sums[sort] : 0;
        }

        boolean isFull(int sort) {
            return !isSort(sort) || sizes[sort] >= MOST_COLLECTED[sort];
        }

        void append(int sort, int v) {
            if (isSort(sort)) {
                sums[sort] = 31 * sums[sort] + v + 1;
                sizes[sort]++;
            }
        }

        void empty(int sort) {
            if (isSort(sort)) {
                sums[sort] = 0;
                sizes[sort] = 0;
            }
        }
    }

    /** The PART to which a DEFINED CALL goes. */
    private static final class Part {
        private int kind;
        private int wants;
        private long low;
        private long high;
        private final long[] table = new long[MOST_ANSWERS];
        private int answers;
        private int next;
        private int failureSort;
        private int failuresDue;

        void begin(int newKind, int newWants, long newLow, long newHigh) {
            kind = newKind;
            wants = newWants;
            low = newLow;
            high = newHigh;
            answers = 0;
            next = 0;
            failuresDue = 0;
        }

        void addToTable(long v) {
            if (answers < MOST_ANSWERS) {
                table[answers] = v;
                answers++;
            }
        }

        /** One FAILURE less, if some are due, and its SORT: a plain number, since LANGUAGE.md leaves no exceptions. */
        int outcome() {
            if (failuresDue <= 0) {
                return ANSWERED;
            }
            failuresDue--;
            return failureSort;
        }

        long reply(long w) {
            // Only an empty TABLE has no NEXT answer.
            if (next >= answers) {
                return w;
            }
            long v = w + table[next];
            // Turned round at once: an answer that is added later must not become NEXT.
            next = next + 1 < answers ? next + 1 : 0;
            return v;
        }
    }

    /** A HOUSE's BUILD: over, or not begun, where no TURNS are left. */
    private static final class Build {
        private int turnsLeft;
        private int turnsDone;
        private int waiting;
        private final int[] calls = new int[MOST_WAITING];
        private final int[] numbers = new int[MOST_WAITING];
        private final long[] ws = new long[MOST_WAITING];

        boolean isOn() {
            return turnsLeft > 0;
        }

        boolean isFull() {
            return waiting >= MOST_WAITING;
        }

        void begin(int turns) {
            turnsLeft = turns;
            turnsDone = 0;
        }

        int nextTurn() {
            turnsLeft--;
            turnsDone++;
            return turnsDone;
        }

        void queue(int call, int number, long w) {
            if (!isFull()) {
                calls[waiting] = call;
                numbers[waiting] = number;
                ws[waiting] = w;
                waiting++;
            }
        }
    }

    /** What is TOLD: rows that are written round and round, so that the latest ones stay. */
    private static final class Told {
        private final int[] fates = new int[MOST_TOLD];
        private final int[] numbers = new int[MOST_TOLD];
        private final int[] calls = new int[MOST_TOLD];
        private final long[] values = new long[MOST_TOLD];
        private int free;
        private int inAll;
        private int answered;
        private int failed;
        private int refused;
        private int cameToWait;

        void add(int fate, int number, int call, long value) {
            fates[free] = fate;
            numbers[free] = number;
            calls[free] = call;
            values[free] = value;
            free = free + 1 < MOST_TOLD ? free + 1 : 0;
            inAll++;
            addToCounts(fate);
        }

        private void addToCounts(int fate) {
            if (fate == ANSWERED) {
                answered++;
            } else if (fate == REFUSED) {
                refused++;
            } else if (fate == WAITS) {
                cameToWait++;
            } else {
                failed++;
            }
        }

        int spotOf(int i) {
            if (i < 0 || i >= MOST_TOLD || i >= inAll) {
                return NONE;
            }
            int spot = free - 1 - i;
            return spot < 0 ? spot + MOST_TOLD : spot;
        }
    }
}
