import java.math.BigInteger;
import java.util.ArrayDeque;
import java.util.ArrayList;
import java.util.Deque;
import java.util.LinkedList;
import java.util.List;
import java.util.Map;
import java.util.TreeMap;

/** The document once more, written for reading and with the whole Java library, to hold BuildCounter against. */
final class Model {
    private static final List<String> KINDS = List.of(
        "HOUSE", "TREE", "REGISTRY", "TARGET", "ACTION", "TEST", "PIPELINE", "JOB", "RELEASE");
    private static final Map<String, String> PLACES = Map.of(
        "TREE", "HOUSE", "REGISTRY", "HOUSE", "PIPELINE", "HOUSE", "RELEASE", "HOUSE",
        "TARGET", "TREE", "ACTION", "TARGET", "TEST", "TARGET", "JOB", "PIPELINE");

    private record Thing(int number, String kind, Thing in) {
        Thing house() {
            return in == null ? this : in.house();
        }

        boolean isWithin(Thing other) {
            return this == other || in != null && in.isWithin(other);
        }
    }

    private static final class Definition {
        String kind;
        int wants;
        long low;
        long high;
        final Deque<Long> table = new ArrayDeque<>();
        /** How many of the table, from its front on, stand before the first one again. */
        int beforeFirst;
        final Deque<RuntimeException> failures = new ArrayDeque<>();

        long part(long w) {
            if (!failures.isEmpty()) {
                throw failures.pop();
            }
            if (table.isEmpty()) {
                return w;
            }
            long next = table.pop();
            table.add(next);
            beforeFirst = beforeFirst == 1 ? table.size() : beforeFirst - 1;
            return BigInteger.valueOf(w).add(BigInteger.valueOf(next)).longValue();
        }

        /** A new answer stands behind the last one, so before the first one. */
        void add(long v) {
            List<Long> row = new ArrayList<>(table);
            row.add(beforeFirst, v);
            table.clear();
            table.addAll(row);
            beforeFirst++;
        }
    }

    private record Waiting(int call, int number, long w) { }

    private static final class Build {
        int turns;
        int done;
        final List<Waiting> waiting = new ArrayList<>();
    }

    private record Row(int fate, int number, int call, long value) { }

    private final Map<Integer, Thing> things = new TreeMap<>();
    private int made = 0;
    private final List<List<Integer>> collection = List.of(new ArrayList<>(), new ArrayList<>(), new ArrayList<>());
    private final Map<Integer, Definition> calls = new TreeMap<>();
    private final Map<Integer, Build> builds = new TreeMap<>();
    private final LinkedList<Row> rows = new LinkedList<>();

    int make(int kind, int in) {
        if (kind < 0 || kind > 8 || made == 60) {
            return -1;
        }
        Thing around = null;
        if (kind != 0) {
            around = things.get(in);
            if (around == null || !PLACES.get(KINDS.get(kind)).equals(around.kind()) || hasBuild(around)) {
                return -1;
            }
        }
        things.put(made, new Thing(made, KINDS.get(kind), around));
        return made++;
    }

    int drop(int number) {
        Thing thing = things.get(number);
        if (thing == null || hasBuild(thing)) {
            return -1;
        }
        int before = things.size();
        things.values().removeIf(t -> t.isWithin(thing));
        return before - things.size();
    }

    int numbers(int kind) {
        if (kind < 0 || kind > 8) {
            return -1;
        }
        return (int) things.values().stream().filter(t -> t.kind().equals(KINDS.get(kind))).count();
    }

    int about(int number, int what) {
        Thing thing = things.get(number);
        if (thing == null) {
            return -1;
        }
        return switch (what) {
            case 0 -> KINDS.indexOf(thing.kind());
            case 1 -> thing.in() == null ? -1 : thing.in().number();
            case 2 -> thing.house().number();
            case 3 -> (int) things.values().stream().filter(t -> t.in() == thing).count();
            default -> -1;
        };
    }

    int collect(int sort, int v) {
        boolean fits = switch (sort) {
            case 0 -> v > 31 && v < 127 && collection.get(0).size() < 30;
            case 1 -> (v > 96 && v < 123 || v == 46 || v == 47) && collection.get(1).size() < 20;
            case 2 -> v > -1 && v < 256 && collection.get(2).size() < 20;
            default -> false;
        };
        if (!fits) {
            return -1;
        }
        collection.get(sort).add(v);
        return collection.get(sort).size();
    }

    int collected(int sort) {
        return sort < 0 || sort > 2 ? -1 : collection.get(sort).size();
    }

    boolean define(int call, int kind, int wants, long low, long high) {
        if (call < 0 || call > 11 || kind < 0 || kind > 8 || wants < -1 || wants > 2 || low > high) {
            return false;
        }
        Definition d = new Definition();
        d.kind = KINDS.get(kind);
        d.wants = wants;
        d.low = low;
        d.high = high;
        calls.put(call, d);
        return true;
    }

    int answer(int call, long v) {
        Definition d = calls.get(call);
        if (d == null || d.table.size() == 5) {
            return -1;
        }
        d.add(v);
        return d.table.size();
    }

    boolean fails(int call, int sort, int times) {
        Definition d = calls.get(call);
        if (d == null || sort < 1 || sort > 3 || times < 0 || times > 9) {
            return false;
        }
        d.failures.clear();
        for (int n = 0; n < times; n++) {
            d.failures.add(switch (sort) {
                case 1 -> new IllegalStateException();
                case 2 -> new IllegalArgumentException();
                default -> new ArithmeticException();
            });
        }
        return true;
    }

    long call(int call, int number, long a) {
        Definition d = calls.get(call);
        Thing thing = things.get(number);
        if (d == null || thing == null || !thing.kind().equals(d.kind)) {
            return tell(4, number, call, -1);
        }
        if (a < d.low || a > d.high) {
            return tell(4, number, call, -2);
        }
        List<Integer> taken = new ArrayList<>();
        if (d.wants != -1) {
            if (collection.get(d.wants).isEmpty()) {
                return tell(4, number, call, -3);
            }
            if (hasBuild(thing) && builds.get(thing.house().number()).waiting.size() == 6) {
                return tell(4, number, call, -4);
            }
            taken.addAll(collection.get(d.wants));
            collection.get(d.wants).clear();
        }
        long w = a + sumOf(taken);
        if (d.wants != -1 && hasBuild(thing)) {
            builds.get(thing.house().number()).waiting.add(new Waiting(call, number, w));
            return tell(5, number, call, -5);
        }
        try {
            return tell(0, number, call, d.part(w));
        } catch (IllegalStateException | IllegalArgumentException | ArithmeticException e) {
            if (d.wants != -1) {
                collection.get(d.wants).addAll(taken);
            }
            return tell(sortOf(e), number, call, -10 - sortOf(e));
        }
    }

    boolean build(int house, int turns) {
        Thing thing = things.get(house);
        if (thing == null || thing.in() != null || hasBuild(thing) || turns < 1 || turns > 9) {
            return false;
        }
        Build b = new Build();
        b.turns = turns;
        builds.put(house, b);
        return true;
    }

    int turn(int house) {
        Build b = builds.get(house);
        if (b == null) {
            return -1;
        }
        b.done++;
        int answered = 0;
        for (Thing t : things.values()) {
            if (t.house().number() == house && (t.kind().equals("ACTION") || t.kind().equals("TEST"))) {
                for (Map.Entry<Integer, Definition> e : calls.entrySet()) {
                    if (e.getValue().kind.equals(t.kind())) {
                        answered += go(e.getKey(), t.number(), b.done);
                        break;
                    }
                }
            }
        }
        if (b.done == b.turns) {
            builds.remove(house);
            for (Waiting each : b.waiting) {
                go(each.call(), each.number(), each.w());
            }
        }
        return answered;
    }

    int building(int house, int what) {
        Thing thing = things.get(house);
        if (thing == null || thing.in() != null || what < 0 || what > 1) {
            return -1;
        }
        Build b = builds.get(house);
        if (b == null) {
            return 0;
        }
        return what == 0 ? b.turns - b.done : b.waiting.size();
    }

    int told(int i, int what) {
        if (i < 0 || i > 39 || i >= rows.size()) {
            return -1;
        }
        Row row = rows.get(i);
        return what == 0 ? row.fate() : what == 1 ? row.number() : what == 2 ? row.call() : -1;
    }

    long value(int i) {
        return i < 0 || i > 39 || i >= rows.size() ? 0 : rows.get(i).value();
    }

    int count(int what) {
        return switch (what) {
            case 0 -> rows.size();
            case 1 -> fates(0, 0);
            case 2 -> fates(1, 3);
            case 3 -> fates(4, 4);
            case 4 -> fates(5, 5);
            default -> -1;
        };
    }

    private int fates(int from, int to) {
        return (int) rows.stream().filter(r -> r.fate() >= from && r.fate() <= to).count();
    }

    private boolean hasBuild(Thing thing) {
        return builds.containsKey(thing.house().number());
    }

    private static long sumOf(List<Integer> numbers) {
        BigInteger sum = BigInteger.ZERO;
        for (int v : numbers) {
            sum = sum.multiply(BigInteger.valueOf(31)).add(BigInteger.valueOf(v)).add(BigInteger.ONE);
        }
        return sum.longValue();
    }

    private static int sortOf(RuntimeException e) {
        return e instanceof IllegalStateException ? 1 : e instanceof IllegalArgumentException ? 2 : 3;
    }

    private int go(int call, int number, long w) {
        try {
            tell(0, number, call, calls.get(call).part(w));
            return 1;
        } catch (IllegalStateException | IllegalArgumentException | ArithmeticException e) {
            tell(sortOf(e), number, call, 0);
            return 0;
        }
    }

    private long tell(int fate, int number, int call, long value) {
        rows.addFirst(new Row(fate, number, call, value));
        return value;
    }
}
