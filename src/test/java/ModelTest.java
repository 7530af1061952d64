import java.util.Arrays;
import java.util.Random;

/** All promises at once: long runs of the same calls on the class and on the model, which have to answer the same. */
final class ModelTest {
    private static final int RUNS = 1500;
    private static final int CALLS = 512;
    /** 12 stations, 30 vehicles and 60 persons, unless some of their calls are refused. */
    private static final int FULL = 102;
    private static final int MOST_TOLD = 20;
    private static final int[] WILD = {-1, 100000, Integer.MIN_VALUE, Integer.MAX_VALUE, 12, 30, 60, 121, 5, 7};
    private static final String[] BUILDING = {
        "station", "station", "temporary", "vehicle", "vehicle", "vehicle", "vehicle", "out", "out", "out",
        "person", "person", "person", "person", "duty", "duty", "duty", "duty", "duty", "duty", "move", "move",
        "need", "need", "period", "period", "check", "check", "key", "key"};
    private static final String[] ASKING = {
        "on", "at", "at", "vehicleAt", "vehicleAt", "vehicleAt", "vehicleAt", "vehicleAt", "vehicleAt", "vehicleAt",
        "lacks", "lacks", "missing", "missing", "holder", "twice", "limit"};

    private final Random random;
    private final StationRows rows = new StationRows();
    private final Model model = new Model();
    /** Short runs of time make times meet often; long ones use the whole range. */
    private final int span;
    private final String[] flood;
    private final boolean beginsFull;
    private int stations;
    private int vehicles;
    private int persons;

    private ModelTest(int seed) {
        random = new Random(seed);
        span = new int[] {12, 40, 200, 3000, 99999}[seed % 5];
        flood = seed % 7 == 0 ? new String[] {"check"} : seed % 7 == 1 ? new String[] {"key"} : BUILDING;
        beginsFull = seed % 2 == 0;
    }

    public static void main(String[] args) {
        Due due = new Due();
        int told = 0;
        for (int seed = 0; seed < RUNS && told < MOST_TOLD; seed++) {
            String difference = new ModelTest(seed).firstDifference();
            if (difference != null) {
                due.tell("run " + seed + ": " + difference);
                told++;
            }
        }
        due.end();
    }

    private String firstDifference() {
        for (int i = 0; i < CALLS; i++) {
            String name = nextName(i);
            int[] arguments = nextArguments(name);
            String want = answer(() -> model.call(name, arguments));
            String got = answer(() -> callRows(name, arguments));
            if (!got.equals(want)) {
                return "call " + i + ", " + name + Arrays.toString(arguments) + " answered " + got + ", due is " + want;
            }
            countNew(name, want);
        }
        return null;
    }

    private String nextName(int i) {
        if (beginsFull && i < FULL) {
            return i < 12 ? i % 3 == 2 ? "temporary" : "station" : i < 42 ? "vehicle" : "person";
        }
        if (i < 3) {
            return "station";
        }
        String[] from = random.nextInt(CALLS) < i ? ASKING : i > CALLS / 2 ? flood : BUILDING;
        return from[random.nextInt(from.length)];
    }

    private int[] nextArguments(String name) {
        int[] a = plainArguments(name);
        if (a.length > 0 && random.nextInt(25) == 0) {
            a[random.nextInt(a.length)] = WILD[random.nextInt(WILD.length)];
        }
        if (name.equals("key")) {
            a[2] &= 1;
        }
        return a;
    }

    private int[] plainArguments(String name) {
        int from = random.nextInt(span);
        int to = from + 1 + random.nextInt(1 + span / 4);
        int distance = random.nextInt(3) == 0 ? 0 : random.nextInt(2) == 0 ? random.nextInt(5) : random.nextInt(121);
        int crew = random.nextInt(4) == 0 ? random.nextInt(10) : random.nextInt(4);
        switch (name) {
            case "station": return ints(1 + random.nextInt(6));
            case "temporary": return ints(1 + random.nextInt(6), from, to);
            case "vehicle": return ints(any(stations), random.nextInt(3), crew);
            case "out": return ints(any(vehicles), from, to);
            case "person": return ints(any(stations), distance);
            case "duty": return ints(any(persons), from, to);
            case "move": return ints(any(persons), any(stations), from, to);
            case "limit": return ints(random.nextInt(3) == 0 ? distance : 60 + random.nextInt(61));
            case "on":
            case "lacks": return ints(any(stations), random.nextInt(span));
            case "at": return ints(any(stations), random.nextInt(span), random.nextInt(4));
            case "vehicleAt": return ints(any(vehicles), random.nextInt(span), random.nextInt(7));
            case "need": return ints(any(stations), random.nextInt(24), random.nextInt(10));
            case "period": return ints(any(stations), random.nextInt(5), random.nextInt(1 + Math.min(span, 9999)));
            case "check": return ints(any(stations), random.nextInt(5), random.nextInt(span));
            case "missing": return ints(random.nextInt(span), random.nextInt(5));
            case "key": return ints(any(stations), random.nextInt(4), random.nextInt(2));
            case "holder": return ints(random.nextInt(4), random.nextInt(4));
            default: return ints();
        }
    }

    private int callRows(String name, int[] a) {
        switch (name) {
            case "station": return rows.station(a[0]);
            case "temporary": return rows.temporary(a[0], a[1], a[2]);
            case "vehicle": return rows.vehicle(a[0], a[1], a[2]);
            case "out": rows.out(a[0], a[1], a[2]); return 0;
            case "person": return rows.person(a[0], a[1]);
            case "duty": rows.duty(a[0], a[1], a[2]); return 0;
            case "move": rows.move(a[0], a[1], a[2], a[3]); return 0;
            case "limit": return rows.limit(a[0]);
            case "on": return rows.on(a[0], a[1]);
            case "at": return rows.at(a[0], a[1], a[2]);
            case "vehicleAt": return rows.vehicleAt(a[0], a[1], a[2]);
            case "need": rows.need(a[0], a[1], a[2]); return 0;
            case "lacks": return rows.lacks(a[0], a[1]);
            case "period": rows.period(a[0], a[1], a[2]); return 0;
            case "check": rows.check(a[0], a[1], a[2]); return 0;
            case "missing": return rows.missing(a[0], a[1]);
            case "key": rows.key(a[0], a[1], a[2] == 1); return 0;
            case "holder": return rows.holder(a[0], a[1]);
            default: return rows.twice();
        }
    }

    private void countNew(String name, String answer) {
        if (answer.startsWith("throws.")) {
            return;
        }
        stations += name.equals("station") || name.equals("temporary") ? 1 : 0;
        vehicles += name.equals("vehicle") ? 1 : 0;
        persons += name.equals("person") ? 1 : 0;
    }

    private int any(int count) {
        return count == 0 ? 0 : random.nextInt(count);
    }

    private static int[] ints(int... all) {
        return all;
    }

    private interface Asked {
        int answer();
    }

    private static String answer(Asked asked) {
        try {
            return Integer.toString(asked.answer());
        } catch (RuntimeException e) {
            return "throws." + e.getClass().getSimpleName();
        }
    }
}
