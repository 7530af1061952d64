import java.util.Arrays;

/**
 * Stations of a rescue service, their vehicles, persons, needs, checks and keys.
 *
 * <p>The face holds the refusals alone, in the document's order: unknown numbers, ranges, state, room. The classes
 * inside hold the rows; they are given numbers that the face has tested, and make nothing after their constructors,
 * so that a long run of calls needs no more room than a short one.
 */
public final class StationRows {
    private static final int NONE = -1;
    private static final int MINUTES = 100000;
    private static final int MINUTES_OF_HOUR = 60;
    private static final int HOURS = 24;
    private static final int STATIONS = 12;
    private static final int MOST_DOORS = 6;
    private static final int VEHICLES = 30;
    private static final int KINDS = 10;
    private static final int MOST_CREW = 9;
    private static final int OUTS = 4;
    private static final int PERSONS = 60;
    private static final int MOST_DISTANCE = 120;
    private static final int DUTIES = 6;
    private static final int MOVES = 3;
    private static final int MOST_NEED = 60;
    private static final int CHECKS = 5;
    private static final int MOST_PERIOD = 9999;
    private static final int DONE_CHECKS = 200;
    private static final int KEYS = 100;

    private static final int WHAT_MANNED = 0;
    private static final int WHAT_DELAY = 1;
    private static final int WHAT_PERSONS = 2;
    private static final int WHAT_LOWEST = 3;
    private static final int WHAT_STANDS_FOR = 4;
    private static final int WHAT_SPARE = 5;
    private static final int WHAT_OUT = 6;
    private static final int WHATS = 7;

    private final Stations stations = new Stations();
    private final Vehicles vehicles = new Vehicles();
    private final Persons persons = new Persons();
    private final Needs needs = new Needs();
    private final Checks checks = new Checks();
    private final Keys keys = new Keys();

    public StationRows() {
    }

    public int station(int doors) throws IndexOutOfBoundsException, UnsupportedOperationException {
        requireRange(doors, 1, MOST_DOORS);
        requireRoom(stations.count() < STATIONS);
        return stations.add(doors, 0, MINUTES);
    }

    public int temporary(int doors, int from, int to)
            throws IndexOutOfBoundsException, UnsupportedOperationException {
        requireRange(doors, 1, MOST_DOORS);
        requireTime(from, to);
        requireRoom(stations.count() < STATIONS);
        return stations.add(doors, from, to);
    }

    public int vehicle(int station, int kind, int crew)
            throws IllegalArgumentException, IndexOutOfBoundsException, UnsupportedOperationException {
        requireKnown(station, stations.count());
        requireRange(kind, 0, KINDS - 1);
        requireRange(crew, 0, MOST_CREW);
        requireRoom(vehicles.count() < VEHICLES);
        requireRoom(vehicles.countOf(station) < stations.doorsOf(station));
        return vehicles.add(station, kind, crew);
    }

    public void out(int vehicle, int from, int to)
            throws IllegalArgumentException, IndexOutOfBoundsException, IllegalStateException,
            UnsupportedOperationException {
        requireKnown(vehicle, vehicles.count());
        requireTime(from, to);
        addTime(vehicles.outs(), vehicle, from, to);
    }

    public int person(int station, int distance)
            throws IllegalArgumentException, IndexOutOfBoundsException, UnsupportedOperationException {
        requireKnown(station, stations.count());
        requireRange(distance, 0, MOST_DISTANCE);
        requireRoom(persons.count() < PERSONS);
        return persons.add(station, distance);
    }

    public void duty(int person, int from, int to)
            throws IllegalArgumentException, IndexOutOfBoundsException, IllegalStateException,
            UnsupportedOperationException {
        requireKnown(person, persons.count());
        requireTime(from, to);
        addTime(persons.duties(), person, from, to);
    }

    public void move(int person, int station, int from, int to)
            throws IllegalArgumentException, IndexOutOfBoundsException, IllegalStateException,
            UnsupportedOperationException {
        requireKnown(person, persons.count());
        requireKnown(station, stations.count());
        requireTime(from, to);
        requireState(persons.homeOf(person) != station);
        addTime(persons.moves(), person, from, to);
        persons.keepNewestMoveStation(person, station);
    }

    public int limit(int minutes) throws IndexOutOfBoundsException {
        requireRange(minutes, 0, MOST_DISTANCE);
        return persons.changeLimit(minutes);
    }

    public int on(int station, int t) throws IllegalArgumentException, IndexOutOfBoundsException {
        requireKnown(station, stations.count());
        requireMinute(t);
        return gatherPersons(station, t);
    }

    public int at(int station, int t, int i) throws IllegalArgumentException, IndexOutOfBoundsException {
        requireKnown(station, stations.count());
        requireMinute(t);
        requirePlace(i);
        return i < gatherPersons(station, t) ? persons.inRow(i) : NONE;
    }

    public int vehicleAt(int vehicle, int t, int what) throws IllegalArgumentException, IndexOutOfBoundsException {
        requireKnown(vehicle, vehicles.count());
        requireKnown(what, WHATS);
        requireMinute(t);
        vehicles.assignSpares(stations, t);
        switch (what) {
            case WHAT_STANDS_FOR:
                return vehicles.standsFor(vehicle);
            case WHAT_SPARE:
                return vehicles.spareOf(vehicle);
            case WHAT_OUT:
                return vehicles.isOut(vehicle, t) ? 1 : 0;
            default:
                return tellCrew(vehicle, t, what);
        }
    }

    public void need(int station, int hour, int n) throws IllegalArgumentException, IndexOutOfBoundsException {
        requireKnown(station, stations.count());
        requireRange(hour, 0, HOURS - 1);
        requireRange(n, 0, MOST_NEED);
        needs.raise(station, hour, n);
    }

    public int lacks(int station, int t) throws IllegalArgumentException, IndexOutOfBoundsException {
        requireKnown(station, stations.count());
        requireMinute(t);
        if (!stations.isThere(station, t)) {
            return 0;
        }
        return Math.max(0, needs.neededAt(station, t) - gatherPersons(station, t));
    }

    public void period(int station, int check, int minutes)
            throws IllegalArgumentException, IndexOutOfBoundsException {
        requireKnown(station, stations.count());
        requireKnown(check, CHECKS);
        requireRange(minutes, 0, MOST_PERIOD);
        checks.changePeriod(station, check, minutes);
    }

    public void check(int station, int check, int t)
            throws IllegalArgumentException, IndexOutOfBoundsException, UnsupportedOperationException {
        requireKnown(station, stations.count());
        requireKnown(check, CHECKS);
        requireMinute(t);
        requireRoom(checks.doneCount() < DONE_CHECKS);
        checks.addDone(station, check, t);
    }

    public int missing(int t, int i) throws IndexOutOfBoundsException {
        requireMinute(t);
        requirePlace(i);
        checks.findLatest(t);
        int before = 0;
        for (int station = 0; station < stations.count(); station++) {
            if (!stations.isThere(station, t)) {
                continue;
            }
            for (int check = 0; check < CHECKS; check++) {
                if (!checks.isMissing(station, check, t)) {
                    continue;
                }
                if (before == i) {
                    return 10 * station + check;
                }
                before++;
            }
        }
        return NONE;
    }

    public void key(int station, int key, boolean on)
            throws IllegalArgumentException, IndexOutOfBoundsException, IllegalStateException {
        requireKnown(station, stations.count());
        requireRange(key, 0, KEYS - 1);
        requireState(keys.isAt(key, station) != on);
        keys.flip(key, station);
    }

    public int holder(int key, int i) throws IndexOutOfBoundsException {
        requireRange(key, 0, KEYS - 1);
        requirePlace(i);
        return keys.stationInRow(key, i);
    }

    public int twice() {
        return keys.countAtSeveral();
    }

    private static void requireKnown(int number, int count) {
        if (number < 0 || number >= count) {
            throw new IllegalArgumentException("unknown number");
        }
    }

    private static void requireRange(int value, int least, int most) {
        if (value < least || value > most) {
            throw new IndexOutOfBoundsException("outside of the range");
        }
    }

    private static void requireMinute(int t) {
        requireRange(t, 0, MINUTES - 1);
    }

    private static void requirePlace(int i) {
        if (i < 0) {
            throw new IndexOutOfBoundsException("a place below 0");
        }
    }

    private static void requireTime(int from, int to) {
        requireMinute(from);
        requireMinute(to);
        if (from >= to) {
            throw new IndexOutOfBoundsException("a time of less than a minute");
        }
    }

    private static void requireState(boolean fits) {
        if (!fits) {
            throw new IllegalStateException("not in this state");
        }
    }

    private static void requireRoom(boolean left) {
        if (!left) {
            throw new UnsupportedOperationException("no room");
        }
    }

    private static void addTime(Times times, int owner, int from, int to) {
        requireState(!times.meets(owner, from, to));
        requireRoom(times.hasRoom(owner));
        times.add(owner, from, to);
    }

    /** Leaves the persons of the station in the row of the persons; answers how many they are. */
    private int gatherPersons(int station, int t) {
        return persons.gather(station, t, stations.isThere(station, t));
    }

    /** Wants the spares of the minute to be assigned: they change who takes persons before this vehicle. */
    private int tellCrew(int vehicle, int t, int what) {
        int present = gatherPersons(vehicles.stationOf(vehicle), t);
        int first = vehicles.takenBefore(vehicle, t, present);
        int taken = vehicles.takenBy(vehicle, t, present - first);
        switch (what) {
            case WHAT_MANNED:
                return taken == 0 ? 0 : persons.delayInRow(first, taken) == 0 ? 2 : 1;
            case WHAT_DELAY:
                return persons.delayInRow(first, taken);
            case WHAT_PERSONS:
                return taken;
            case WHAT_LOWEST:
                return persons.lowestInRow(first, taken);
            default:
                return NONE;
        }
    }

    /** A few times for each of many owners; those of one owner have no minute in common. */
    private static final class Times {
        private final int most;
        private final int[] counts;
        private final int[] froms;
        private final int[] tos;

        /** The caller makes the rows (for each owner a count, and most places), so that all lengths are constants. */
        Times(int most, int[] counts, int[] froms, int[] tos) {
            this.most = most;
            this.counts = counts;
            this.froms = froms;
            this.tos = tos;
        }

        int countOf(int owner) {
            return counts[owner];
        }

        boolean hasRoom(int owner) {
            return counts[owner] < most;
        }

        boolean meets(int owner, int from, int to) {
            int first = owner * most;
            for (int place = first; place < first + counts[owner]; place++) {
                if (from < tos[place] && froms[place] < to) {
                    return true;
                }
            }
            return false;
        }

        void add(int owner, int from, int to) {
            int place = owner * most + counts[owner];
            froms[place] = from;
            tos[place] = to;
            counts[owner]++;
        }

        /** Which of the owner's times (0 first) has the minute. */
        int indexAt(int owner, int t) {
            int first = owner * most;
            for (int i = 0; i < counts[owner]; i++) {
                if (froms[first + i] <= t && t < tos[first + i]) {
                    return i;
                }
            }
            return NONE;
        }
    }

    private static final class Stations {
        private final int[] doors = new int[STATIONS];
        private final int[] froms = new int[STATIONS];
        private final int[] tos = new int[STATIONS];
        private int count;

        int count() {
            return count;
        }

        int add(int doorCount, int from, int to) {
            doors[count] = doorCount;
            froms[count] = from;
            tos[count] = to;
            return count++;
        }

        int doorsOf(int station) {
            return doors[station];
        }

        boolean isThere(int station, int t) {
            return froms[station] <= t && t < tos[station];
        }
    }

    private static final class Vehicles {
        private final int[] stationRow = new int[VEHICLES];
        private final int[] kinds = new int[VEHICLES];
        private final int[] crews = new int[VEHICLES];
        private final Times outs =
                new Times(OUTS, new int[VEHICLES], new int[VEHICLES * OUTS], new int[VEHICLES * OUTS]);
        private final int[] standsFor = new int[VEHICLES];
        private final int[] spares = new int[VEHICLES];
        private int count;

        int count() {
            return count;
        }

        Times outs() {
            return outs;
        }

        int add(int station, int kind, int crew) {
            stationRow[count] = station;
            kinds[count] = kind;
            crews[count] = crew;
            return count++;
        }

        int stationOf(int vehicle) {
            return stationRow[vehicle];
        }

        int countOf(int station) {
            int found = 0;
            for (int v = 0; v < count; v++) {
                if (stationRow[v] == station) {
                    found++;
                }
            }
            return found;
        }

        boolean isOut(int vehicle, int t) {
            return outs.indexAt(vehicle, t) != NONE;
        }

        int standsFor(int vehicle) {
            return standsFor[vehicle];
        }

        int spareOf(int vehicle) {
            return spares[vehicle];
        }

        void assignSpares(Stations stations, int t) {
            Arrays.fill(standsFor, NONE);
            Arrays.fill(spares, NONE);
            for (int v = 0; v < count; v++) {
                if (isSpare(v) || !isOut(v, t)) {
                    continue;
                }
                int spare = lowestFreeSpare(kinds[v], stations, t);
                if (spare != NONE) {
                    standsFor[spare] = v;
                    spares[v] = spare;
                }
            }
        }

        /** How many persons of the station the vehicles of lower numbers take, of so many that are present. */
        int takenBefore(int vehicle, int t, int present) {
            int taken = 0;
            for (int v = 0; v < vehicle; v++) {
                if (stationRow[v] == stationRow[vehicle]) {
                    taken += takenBy(v, t, present - taken);
                }
            }
            return taken;
        }

        int takenBy(int vehicle, int t, int left) {
            int wanted = wantedBy(vehicle, t);
            return wanted <= left ? wanted : 0;
        }

        private boolean isSpare(int vehicle) {
            return crews[vehicle] == 0;
        }

        private int lowestFreeSpare(int kind, Stations stations, int t) {
            for (int v = 0; v < count; v++) {
                if (isSpare(v) && kinds[v] == kind && standsFor[v] == NONE
                        && stations.isThere(stationRow[v], t) && !isOut(v, t)) {
                    return v;
                }
            }
            return NONE;
        }

        private int wantedBy(int vehicle, int t) {
            if (isOut(vehicle, t)) {
                return 0;
            }
            int replaced = standsFor[vehicle];
            return replaced == NONE ? crews[vehicle] : crews[replaced];
        }
    }

    private static final class Persons {
        private final int[] homes = new int[PERSONS];
        private final int[] distances = new int[PERSONS];
        private final Times duties =
                new Times(DUTIES, new int[PERSONS], new int[PERSONS * DUTIES], new int[PERSONS * DUTIES]);
        private final Times moves =
                new Times(MOVES, new int[PERSONS], new int[PERSONS * MOVES], new int[PERSONS * MOVES]);
        private final int[] moveStations = new int[PERSONS * MOVES];
        private final int[] row = new int[PERSONS];
        private int rowLength;
        private int count;
        private int distanceLimit = MOST_DISTANCE;

        int count() {
            return count;
        }

        Times duties() {
            return duties;
        }

        Times moves() {
            return moves;
        }

        int add(int station, int distance) {
            homes[count] = station;
            distances[count] = distance;
            return count++;
        }

        int homeOf(int person) {
            return homes[person];
        }

        /** Belongs behind each new time of moves(). */
        void keepNewestMoveStation(int person, int station) {
            int newest = moves.countOf(person) - 1;
            if (newest >= 0) {
                moveStations[person * MOVES + newest] = station;
            }
        }

        int changeLimit(int minutes) {
            distanceLimit = minutes;
            int beyond = 0;
            for (int p = 0; p < count; p++) {
                if (distances[p] > distanceLimit) {
                    beyond++;
                }
            }
            return beyond;
        }

        int gather(int station, int t, boolean isThere) {
            rowLength = 0;
            for (int p = 0; p < count; p++) {
                if (isThere && isOnDuty(p, t) && stationAt(p, t) == station) {
                    insertIntoRow(p);
                }
            }
            return rowLength;
        }

        int inRow(int place) {
            return row[place];
        }

        /** The row is ordered by distance, so the last one of a part has the greatest. */
        int delayInRow(int first, int length) {
            return length == 0 ? 0 : distances[row[first + length - 1]];
        }

        int lowestInRow(int first, int length) {
            if (length == 0) {
                return NONE;
            }
            int lowest = row[first];
            for (int place = first + 1; place < first + length; place++) {
                lowest = Math.min(lowest, row[place]);
            }
            return lowest;
        }

        private boolean isOnDuty(int person, int t) {
            return distances[person] <= distanceLimit && duties.indexAt(person, t) != NONE;
        }

        private int stationAt(int person, int t) {
            int index = moves.indexAt(person, t);
            return index == NONE ? homes[person] : moveStations[person * MOVES + index];
        }

        /** Persons come by numbers: going behind those of the same distance keeps that order. */
        private void insertIntoRow(int person) {
            int place = rowLength;
            for (; place > 0 && distances[row[place - 1]] > distances[person]; place--) {
                row[place] = row[place - 1];
            }
            row[place] = person;
            rowLength++;
        }
    }

    private static final class Needs {
        private final int[] needed = new int[STATIONS * HOURS];

        void raise(int station, int hour, int n) {
            int place = station * HOURS + hour;
            needed[place] = Math.max(needed[place], n);
        }

        int neededAt(int station, int t) {
            return needed[station * HOURS + t / MINUTES_OF_HOUR % HOURS];
        }
    }

    private static final class Checks {
        private final int[] periods = new int[STATIONS * CHECKS];
        private final int[] latest = new int[STATIONS * CHECKS];
        private final int[] donePlaces = new int[DONE_CHECKS];
        private final int[] doneMinutes = new int[DONE_CHECKS];
        private int doneCount;

        int doneCount() {
            return doneCount;
        }

        void changePeriod(int station, int check, int minutes) {
            periods[placeOf(station, check)] = minutes;
        }

        void addDone(int station, int check, int t) {
            donePlaces[doneCount] = placeOf(station, check);
            doneMinutes[doneCount] = t;
            doneCount++;
        }

        /** One pass for all checks: isMissing would otherwise go through all that were done for each of them. */
        void findLatest(int t) {
            Arrays.fill(latest, NONE);
            for (int i = 0; i < doneCount; i++) {
                int place = donePlaces[i];
                if (doneMinutes[i] <= t && doneMinutes[i] > latest[place]) {
                    latest[place] = doneMinutes[i];
                }
            }
        }

        /** Wants findLatest of the same minute before it. */
        boolean isMissing(int station, int check, int t) {
            int place = placeOf(station, check);
            int minutes = periods[place];
            return minutes > 0 && t >= minutes - 1 && latest[place] <= t - minutes;
        }

        private static int placeOf(int station, int check) {
            return station * CHECKS + check;
        }
    }

    private static final class Keys {
        /** For each key a bit for each station: there are fewer stations than an int has bits. */
        private final int[] holders = new int[KEYS];

        boolean isAt(int key, int station) {
            return (holders[key] >> station & 1) == 1;
        }

        void flip(int key, int station) {
            holders[key] ^= 1 << station;
        }

        int stationInRow(int key, int i) {
            int before = 0;
            for (int station = 0; station < STATIONS; station++) {
                if (!isAt(key, station)) {
                    continue;
                }
                if (before == i) {
                    return station;
                }
                before++;
            }
            return NONE;
        }

        int countAtSeveral() {
            int several = 0;
            for (int key = 0; key < KEYS; key++) {
                if (Integer.bitCount(holders[key]) >= 2) {
                    several++;
                }
            }
            return several;
        }
    }
}
