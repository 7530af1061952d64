import java.util.ArrayList;
import java.util.BitSet;
import java.util.Comparator;
import java.util.HashMap;
import java.util.List;
import java.util.Map;
import java.util.TreeSet;

/**
 * The document's words as a second program: slow, with sets of minutes, and with all stations looked at for each
 * question, so that it shares no way of counting with the class that it is compared with.
 */
final class Model {
    private static final class Station {
        int doors;
        boolean temporary;
        BitSet there = new BitSet();
        int[] needs = new int[24];
        int[] periods = new int[5];
        List<BitSet> done = new ArrayList<>();

        boolean isThere(int t) {
            return !temporary || there.get(t);
        }
    }

    private static final class Vehicle {
        int number;
        Station station;
        int kind;
        int crew;
        List<BitSet> outs = new ArrayList<>();
    }

    private static final class Person {
        int number;
        Station home;
        int distance;
        List<BitSet> duties = new ArrayList<>();
        List<BitSet> moves = new ArrayList<>();
        List<Station> targets = new ArrayList<>();
    }

    private final List<Station> stations = new ArrayList<>();
    private final List<Vehicle> vehicles = new ArrayList<>();
    private final List<Person> persons = new ArrayList<>();
    private final Map<Integer, TreeSet<Integer>> keys = new HashMap<>();
    private int limit = 120;
    private int checksDone;

    /** The same call as that of the class of this name; 0 for a call without an answer. */
    int call(String name, int[] a) {
        switch (name) {
            case "station": return station(a[0], false, 0, 1);
            case "temporary": return station(a[0], true, a[1], a[2]);
            case "vehicle": return vehicle(a[0], a[1], a[2]);
            case "out": return out(a[0], a[1], a[2]);
            case "person": return person(a[0], a[1]);
            case "duty": return duty(a[0], a[1], a[2]);
            case "move": return move(a[0], a[1], a[2], a[3]);
            case "limit": return limit(a[0]);
            case "on": return on(a[0], a[1]);
            case "at": return at(a[0], a[1], a[2]);
            case "vehicleAt": return vehicleAt(a[0], a[1], a[2]);
            case "need": return need(a[0], a[1], a[2]);
            case "lacks": return lacks(a[0], a[1]);
            case "period": return period(a[0], a[1], a[2]);
            case "check": return check(a[0], a[1], a[2]);
            case "missing": return missing(a[0], a[1]);
            case "key": return key(a[0], a[1], a[2] == 1);
            case "holder": return holder(a[0], a[1]);
            case "twice": return (int) keys.values().stream().filter(s -> s.size() > 1).count();
            default: throw new AssertionError(name);
        }
    }

    private int station(int doors, boolean temporary, int from, int to) {
        range(doors >= 1 && doors <= 6);
        BitSet there = minutes(from, to);
        room(stations.size() != 12);
        Station s = new Station();
        s.doors = doors;
        s.temporary = temporary;
        s.there = there;
        for (int c = 0; c < 5; c++) {
            s.done.add(new BitSet());
        }
        stations.add(s);
        return stations.size() - 1;
    }

    private int vehicle(int station, int kind, int crew) {
        Station s = get(stations, station);
        range(kind >= 0 && kind <= 9 && crew >= 0 && crew <= 9);
        room(vehicles.size() != 30 && vehicles.stream().filter(v -> v.station == s).count() != s.doors);
        Vehicle v = new Vehicle();
        v.number = vehicles.size();
        v.station = s;
        v.kind = kind;
        v.crew = crew;
        vehicles.add(v);
        return v.number;
    }

    private int out(int vehicle, int from, int to) {
        return addTime(get(vehicles, vehicle).outs, 4, minutes(from, to));
    }

    private int person(int station, int distance) {
        Station s = get(stations, station);
        range(distance >= 0 && distance <= 120);
        room(persons.size() != 60);
        Person p = new Person();
        p.number = persons.size();
        p.home = s;
        p.distance = distance;
        persons.add(p);
        return p.number;
    }

    private int duty(int person, int from, int to) {
        return addTime(get(persons, person).duties, 6, minutes(from, to));
    }

    private int move(int person, int station, int from, int to) {
        Person p = get(persons, person);
        Station s = get(stations, station);
        BitSet time = minutes(from, to);
        state(p.home != s);
        addTime(p.moves, 3, time);
        p.targets.add(s);
        return 0;
    }

    private int limit(int minutes) {
        range(minutes >= 0 && minutes <= 120);
        limit = minutes;
        return (int) persons.stream().filter(p -> p.distance > limit).count();
    }

    private int on(int station, int t) {
        Station s = get(stations, station);
        minute(t);
        return row(s, t).size();
    }

    private int at(int station, int t, int i) {
        Station s = get(stations, station);
        minute(t);
        range(i >= 0);
        List<Person> row = row(s, t);
        return i < row.size() ? row.get(i).number : -1;
    }

    private int vehicleAt(int vehicle, int t, int what) {
        Vehicle v = get(vehicles, vehicle);
        if (what < 0 || what > 6) {
            throw new IllegalArgumentException();
        }
        minute(t);
        Map<Vehicle, Vehicle> spares = spares(t);
        List<Person> crew = crews(t, spares).getOrDefault(v, List.of());
        int delay = crew.stream().mapToInt(p -> p.distance).max().orElse(0);
        switch (what) {
            case 0: return crew.isEmpty() ? 0 : crew.stream().allMatch(p -> p.distance == 0) ? 2 : 1;
            case 1: return delay;
            case 2: return crew.size();
            case 3: return crew.stream().mapToInt(p -> p.number).min().orElse(-1);
            case 4: return numberOf(replacedBy(v, spares));
            case 5: return numberOf(spares.get(v));
            default: return has(v.outs, t) ? 1 : 0;
        }
    }

    private int need(int station, int hour, int n) {
        Station s = get(stations, station);
        range(hour >= 0 && hour <= 23 && n >= 0 && n <= 60);
        s.needs[hour] = n > s.needs[hour] ? n : s.needs[hour];
        return 0;
    }

    private int lacks(int station, int t) {
        Station s = get(stations, station);
        minute(t);
        int lack = s.needs[t / 60 % 24] - row(s, t).size();
        return s.isThere(t) && lack > 0 ? lack : 0;
    }

    private int period(int station, int check, int minutes) {
        Station s = get(stations, station);
        get(s.done, check);
        range(minutes >= 0 && minutes <= 9999);
        s.periods[check] = minutes;
        return 0;
    }

    private int check(int station, int check, int t) {
        BitSet done = get(get(stations, station).done, check);
        minute(t);
        room(checksDone != 200);
        checksDone++;
        done.set(t);
        return 0;
    }

    private int missing(int t, int i) {
        minute(t);
        range(i >= 0);
        List<Integer> all = new ArrayList<>();
        for (int s = 0; s < stations.size(); s++) {
            for (int c = 0; c < 5; c++) {
                if (misses(stations.get(s), c, t)) {
                    all.add(10 * s + c);
                }
            }
        }
        return i < all.size() ? all.get(i) : -1;
    }

    private boolean misses(Station s, int check, int t) {
        int period = s.periods[check];
        if (period == 0 || !s.isThere(t) || t < period - 1) {
            return false;
        }
        return s.done.get(check).get(t - period + 1, t + 1).isEmpty();
    }

    private int key(int station, int key, boolean on) {
        get(stations, station);
        range(key >= 0 && key <= 99);
        TreeSet<Integer> at = keys.computeIfAbsent(key, k -> new TreeSet<>());
        state(on ? at.add(station) : at.remove(station));
        return 0;
    }

    private int holder(int key, int i) {
        range(key >= 0 && key <= 99);
        range(i >= 0);
        List<Integer> at = new ArrayList<>(keys.getOrDefault(key, new TreeSet<>()));
        return i < at.size() ? at.get(i) : -1;
    }

    private List<Person> row(Station s, int t) {
        List<Person> row = new ArrayList<>();
        for (Person p : persons) {
            if (p.distance <= limit && has(p.duties, t) && s.isThere(t) && placeOf(p, t) == s) {
                row.add(p);
            }
        }
        row.sort(Comparator.comparing((Person p) -> p.distance).thenComparing(p -> p.number));
        return row;
    }

    private Station placeOf(Person p, int t) {
        for (int i = 0; i < p.moves.size(); i++) {
            if (p.moves.get(i).get(t)) {
                return p.targets.get(i);
            }
        }
        return p.home;
    }

    /** For each vehicle that is out, the spare one that stands for it. */
    private Map<Vehicle, Vehicle> spares(int t) {
        Map<Vehicle, Vehicle> spares = new HashMap<>();
        for (Vehicle v : vehicles) {
            if (v.crew != 0 && has(v.outs, t)) {
                vehicles.stream()
                    .filter(s -> s.crew == 0 && s.kind == v.kind && !has(s.outs, t) && s.station.isThere(t))
                    .filter(s -> !spares.containsValue(s))
                    .findFirst()
                    .ifPresent(s -> spares.put(v, s));
            }
        }
        return spares;
    }

    private static Vehicle replacedBy(Vehicle spare, Map<Vehicle, Vehicle> spares) {
        for (Map.Entry<Vehicle, Vehicle> e : spares.entrySet()) {
            if (e.getValue() == spare) {
                return e.getKey();
            }
        }
        return null;
    }

    private Map<Vehicle, List<Person>> crews(int t, Map<Vehicle, Vehicle> spares) {
        Map<Vehicle, List<Person>> crews = new HashMap<>();
        for (Station s : stations) {
            List<Person> left = new ArrayList<>(row(s, t));
            for (Vehicle v : vehicles) {
                Vehicle model = v.crew == 0 ? replacedBy(v, spares) : v;
                if (v.station != s || !s.isThere(t) || has(v.outs, t) || model == null || left.size() < model.crew) {
                    continue;
                }
                List<Person> first = left.subList(0, model.crew);
                crews.put(v, new ArrayList<>(first));
                first.clear();
            }
        }
        return crews;
    }

    private static int numberOf(Vehicle v) {
        return v == null ? -1 : v.number;
    }

    private static boolean has(List<BitSet> times, int t) {
        return times.stream().anyMatch(time -> time.get(t));
    }

    private static int addTime(List<BitSet> times, int most, BitSet time) {
        state(times.stream().noneMatch(time::intersects));
        room(times.size() != most);
        times.add(time);
        return 0;
    }

    private static BitSet minutes(int from, int to) {
        minute(from);
        minute(to);
        range(to - from >= 1);
        BitSet set = new BitSet();
        set.set(from, to);
        return set;
    }

    private static <T> T get(List<T> list, int number) {
        if (number < 0 || number >= list.size()) {
            throw new IllegalArgumentException();
        }
        return list.get(number);
    }

    private static void minute(int t) {
        range(t >= 0 && t <= 99999);
    }

    private static void range(boolean within) {
        if (!within) {
            throw new IndexOutOfBoundsException();
        }
    }

    private static void state(boolean fits) {
        if (!fits) {
            throw new IllegalStateException();
        }
    }

    private static void room(boolean left) {
        if (!left) {
            throw new UnsupportedOperationException();
        }
    }
}
