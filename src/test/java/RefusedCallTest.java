/**
 * A refused call changes nothing: of two objects that were made alike, the one that refused a call answers all later
 * calls, those that add until nothing more is taken too, just as the other one.
 */
final class RefusedCallTest {
    private interface Asked {
        int answer();
    }

    private interface Refused {
        void call(StationRows x);
    }

    private static final int[] MINUTES = {12, 33, 55};
    private static final String WORDS = "Refusals: unknown numbers IllegalArgumentException, "
            + "outside of a range IndexOutOfBoundsException, not in this state IllegalStateException, "
            + "no room UnsupportedOperationException";

    public static void main(String[] args) {
        Due.runAll(RefusedCallTest.class);
    }

    @Says(in = "Terms", words = WORDS)
    static void station(Due due) {
        changesNothing(due, "doors 0", x -> x.station(0));
        changesNothing(due, "doors 7", x -> x.station(7));
        changesNothing(due, "temporary, doors 0", x -> x.temporary(0, 1, 2));
        changesNothing(due, "temporary, doors 7", x -> x.temporary(7, 1, 2));
        changesNothing(due, "temporary, from -1", x -> x.temporary(1, -1, 50));
        changesNothing(due, "temporary, no minute", x -> x.temporary(1, 50, 50));
        changesNothing(due, "temporary, to 100000", x -> x.temporary(1, 50, 100000));
    }

    @Says(in = "Terms", words = WORDS)
    static void vehicle(Due due) {
        changesNothing(due, "station 3", x -> x.vehicle(3, 0, 1));
        changesNothing(due, "station -1", x -> x.vehicle(-1, 0, 1));
        changesNothing(due, "kind 10", x -> x.vehicle(2, 10, 1));
        changesNothing(due, "kind -1", x -> x.vehicle(2, -1, 1));
        changesNothing(due, "crew 10", x -> x.vehicle(2, 0, 10));
        changesNothing(due, "crew -1", x -> x.vehicle(2, 0, -1));
        changesNothing(due, "no door left", x -> x.vehicle(0, 0, 1));
        changesNothing(due, "no door left for a spare one", x -> x.vehicle(1, 1, 0));
    }

    @Says(in = "Terms", words = WORDS)
    static void out(Due due) {
        changesNothing(due, "vehicle 5", x -> x.out(5, 90, 95));
        changesNothing(due, "vehicle -1", x -> x.out(-1, 90, 95));
        changesNothing(due, "from -1", x -> x.out(4, -1, 95));
        changesNothing(due, "no minute", x -> x.out(4, 33, 33));
        changesNothing(due, "to 100000", x -> x.out(4, 0, 100000));
        changesNothing(due, "its last minute", x -> x.out(3, 34, 99));
        changesNothing(due, "its first minute", x -> x.out(3, 0, 16));
        changesNothing(due, "its last minute, no room", x -> x.out(0, 79, 95));
        changesNothing(due, "no room", x -> x.out(0, 80, 99999));
    }

    @Says(in = "Terms", words = WORDS)
    static void person(Due due) {
        changesNothing(due, "station 3", x -> x.person(3, 0));
        changesNothing(due, "station -1", x -> x.person(-1, 0));
        changesNothing(due, "distance 121", x -> x.person(0, 121));
        changesNothing(due, "distance -1", x -> x.person(0, -1));
    }

    @Says(in = "Terms", words = WORDS)
    static void duty(Due due) {
        changesNothing(due, "person 5", x -> x.duty(5, 90, 95));
        changesNothing(due, "person -1", x -> x.duty(-1, 90, 95));
        changesNothing(due, "from -1", x -> x.duty(1, -1, 95));
        changesNothing(due, "no minute", x -> x.duty(1, 95, 95));
        changesNothing(due, "to 100000", x -> x.duty(1, 90, 100000));
        changesNothing(due, "its last minute", x -> x.duty(1, 89, 99999));
        changesNothing(due, "its first minute, no room", x -> x.duty(0, 10, 16));
        changesNothing(due, "no room", x -> x.duty(0, 10, 15));
    }

    @Says(in = "Terms", words = WORDS)
    static void move(Due due) {
        changesNothing(due, "person 5", x -> x.move(5, 0, 0, 95));
        changesNothing(due, "station 3", x -> x.move(3, 3, 0, 40));
        changesNothing(due, "station -1", x -> x.move(3, -1, 0, 40));
        changesNothing(due, "from -1", x -> x.move(3, 0, -1, 40));
        changesNothing(due, "no minute", x -> x.move(3, 0, 33, 33));
        changesNothing(due, "to 100000", x -> x.move(3, 0, 50, 100000));
        changesNothing(due, "home", x -> x.move(3, 2, 10, 40));
        changesNothing(due, "its last minute", x -> x.move(3, 1, 49, 60));
        changesNothing(due, "its first minute", x -> x.move(3, 1, 10, 41));
        changesNothing(due, "its last minute, no room", x -> x.move(1, 2, 39, 50));
        changesNothing(due, "no room", x -> x.move(1, 2, 20, 30));
    }

    @Says(in = "Terms", words = WORDS)
    static void questions(Due due) {
        changesNothing(due, "limit(-1)", x -> x.limit(-1));
        changesNothing(due, "limit(121)", x -> x.limit(121));
        changesNothing(due, "on, station 3", x -> x.on(3, 0));
        changesNothing(due, "on, minute -1", x -> x.on(0, -1));
        changesNothing(due, "at, station 3", x -> x.at(3, 0, 0));
        changesNothing(due, "at, minute 100000", x -> x.at(0, 100000, 0));
        changesNothing(due, "at, i -1", x -> x.at(0, 12, -1));
        changesNothing(due, "vehicleAt, vehicle 5", x -> x.vehicleAt(5, 12, 0));
        changesNothing(due, "vehicleAt, what 7", x -> x.vehicleAt(0, 12, 7));
        changesNothing(due, "vehicleAt, minute -1", x -> x.vehicleAt(0, -1, 0));
        changesNothing(due, "lacks, station 3", x -> x.lacks(3, 0));
        changesNothing(due, "lacks, minute 100000", x -> x.lacks(0, 100000));
        changesNothing(due, "missing, minute -1", x -> x.missing(-1, 0));
        changesNothing(due, "missing, i -1", x -> x.missing(12, -1));
        changesNothing(due, "holder, key 100", x -> x.holder(100, 0));
        changesNothing(due, "holder, i -1", x -> x.holder(0, -1));
    }

    @Says(in = "Terms", words = WORDS)
    static void needPeriodAndCheck(Due due) {
        changesNothing(due, "need, station 3", x -> x.need(3, 0, 9));
        changesNothing(due, "need, hour 24", x -> x.need(0, 24, 9));
        changesNothing(due, "need, hour -1", x -> x.need(1, -1, 9));
        changesNothing(due, "need, n 61", x -> x.need(0, 0, 61));
        changesNothing(due, "need, n -1", x -> x.need(0, 0, -1));
        changesNothing(due, "period, station 3", x -> x.period(3, 0, 1));
        changesNothing(due, "period, check 5", x -> x.period(0, 5, 1));
        changesNothing(due, "period, check -1", x -> x.period(1, -1, 1));
        changesNothing(due, "period, minutes -1", x -> x.period(0, 0, -1));
        changesNothing(due, "period, minutes 10000", x -> x.period(0, 0, 10000));
        changesNothing(due, "check, station 3", x -> x.check(3, 0, 12));
        changesNothing(due, "check, check 5", x -> x.check(0, 5, 12));
        changesNothing(due, "check, check -1", x -> x.check(1, -1, 12));
        changesNothing(due, "check, minute -1", x -> x.check(0, 0, -1));
        changesNothing(due, "check, minute 100000", x -> x.check(0, 0, 100000));
    }

    @Says(in = "Terms", words = WORDS)
    static void key(Due due) {
        changesNothing(due, "station 3", x -> x.key(3, 0, true));
        changesNothing(due, "key 100", x -> x.key(0, 100, true));
        changesNothing(due, "key -1", x -> x.key(0, -1, true));
        changesNothing(due, "on again", x -> x.key(0, 0, true));
        changesNothing(due, "off, never on", x -> x.key(2, 0, false));
    }

    @Says(in = "Terms", words = "no room UnsupportedOperationException")
    static void whenAllIsFull(Due due) {
        String want = taleOfFullRows(fullRows());
        Refused[] refused = {
            x -> x.station(6), x -> x.temporary(6, 0, 99999), x -> x.vehicle(11, 0, 1), x -> x.vehicle(11, 0, 0),
            x -> x.person(0, 0), x -> x.check(11, 4, 1)};
        for (int i = 0; i < refused.length; i++) {
            StationRows x = fullRows();
            Refused call = refused[i];
            due.noRoom("full, call " + i, () -> call.call(x));
            due.same("full, later answers behind call " + i, taleOfFullRows(x), want);
        }
    }

    /** No question changes what is asked later, whatever the class keeps of it for itself. */
    @Says(in = "Not promised", words = "Nothing is promised beyond the answers and state changes described above")
    static void questionsThatAreAnswered(Due due) {
        String want = tale(someRows());
        Refused[] asked = {
            x -> x.on(2, 0), x -> x.at(2, 0, 0), x -> x.vehicleAt(1, 33, 4), x -> x.vehicleAt(3, 12, 0),
            x -> x.lacks(2, 60), x -> x.missing(99999, 2), x -> x.holder(0, 1), x -> x.twice()};
        for (int i = 0; i < asked.length; i++) {
            StationRows x = someRows();
            asked[i].call(x);
            due.same("later answers behind question " + i, tale(x), want);
        }
    }

    private static void changesNothing(Due due, String name, Refused refused) {
        StationRows x = someRows();
        try {
            refused.call(x);
            due.tell(name + " was not refused");
        } catch (RuntimeException e) {
            due.same(name + ": later answers", tale(x), tale(someRows()));
        }
    }

    /** Three stations (0 and 1 without a door left), vehicle 0 and persons 0 and 1 with some row full, 4 beyond it. */
    private static StationRows someRows() {
        StationRows x = new StationRows();
        x.station(2);
        x.temporary(1, 20, 60);
        x.station(6);
        int[][] vehicles = {{0, 1, 2}, {0, 1, 0}, {1, 2, 1}, {2, 1, 1}, {2, 2, 0}};
        for (int[] v : vehicles) {
            x.vehicle(v[0], v[1], v[2]);
        }
        for (int i = 0; i < 4; i++) {
            x.out(0, 10 + 20 * i, 20 + 20 * i);
        }
        x.out(3, 15, 35);
        int[][] persons = {{0, 0}, {0, 5}, {1, 10}, {2, 0}, {2, 120}};
        for (int[] p : persons) {
            x.person(p[0], p[1]);
        }
        for (int i = 0; i < 6; i++) {
            x.duty(0, 15 * i, 15 * i + 10);
        }
        for (int p = 1; p < 5; p++) {
            x.duty(p, 0, 90);
        }
        addTheRest(x);
        return x;
    }

    private static void addTheRest(StationRows x) {
        x.move(1, 2, 10, 20);
        x.move(1, 1, 30, 40);
        x.move(1, 2, 50, 60);
        x.move(3, 0, 40, 50);
        x.limit(100);
        x.need(0, 0, 3);
        x.need(1, 0, 2);
        x.need(2, 1, 4);
        x.period(0, 0, 10);
        x.period(1, 1, 5);
        x.period(2, 4, 7);
        x.check(0, 0, 5);
        x.check(2, 4, 12);
        x.check(1, 1, 22);
        x.key(0, 0, true);
        x.key(1, 0, true);
        x.key(2, 99, true);
    }

    /** Stays below 512 calls in all, since later answers are free. */
    private static String tale(StationRows x) {
        StringBuilder told = new StringBuilder();
        for (int t : MINUTES) {
            tellMinute(told, x, t);
        }
        for (int i = 0; i < 3; i++) {
            int place = i;
            tell(told, () -> x.holder(0, place));
            tell(told, () -> x.holder(99, place));
        }
        tell(told, x::twice);
        tellWhatIsTaken(told, x);
        tell(told, () -> x.limit(0));
        return told.toString();
    }

    private static void tellMinute(StringBuilder told, StationRows x, int t) {
        for (int s = 0; s < 3; s++) {
            int station = s;
            tell(told, () -> x.on(station, t));
            tell(told, () -> x.at(station, t, 0));
            tell(told, () -> x.at(station, t, 1));
            tell(told, () -> x.lacks(station, t));
            tell(told, () -> x.missing(t, station));
        }
        for (int place = 0; place < 5 * 7; place++) {
            int vehicle = place / 7;
            int what = place % 7;
            tell(told, () -> x.vehicleAt(vehicle, t, what));
        }
    }

    /** Adds of each kind until one more is refused: so the room that is left shows too. */
    private static void tellWhatIsTaken(StringBuilder told, StationRows x) {
        for (int i = 0; i < 10; i++) {
            tell(told, () -> x.station(1));
        }
        for (int i = 0; i < 5; i++) {
            tell(told, () -> x.vehicle(2, 0, 1));
        }
        for (int i = 0; i < 6; i++) {
            int from = 100 + i;
            tell(told, () -> done(() -> x.out(3, from, from + 1)));
            tell(told, () -> done(() -> x.duty(1, from, from + 1)));
            tell(told, () -> done(() -> x.move(3, 0, from, from + 1)));
        }
        for (int i = 0; i < 56; i++) {
            tell(told, () -> x.person(0, 100));
        }
        for (int i = 0; i < 198; i++) {
            tell(told, () -> done(() -> x.check(0, 0, 0)));
        }
    }

    private static StationRows fullRows() {
        StationRows x = World.stations(12);
        for (int v = 0; v < 30; v++) {
            x.vehicle(v / 6, v % 2, v % 3);
        }
        for (int p = 0; p < 60; p++) {
            x.person(p % 12, 2 * p);
            x.duty(p, 0, 10);
        }
        x.period(11, 4, 1);
        World.checks(x, 200);
        return x;
    }

    private static String taleOfFullRows(StationRows x) {
        StringBuilder told = new StringBuilder();
        for (int s = 0; s < 13; s++) {
            int station = s;
            tell(told, () -> x.on(station, 0));
            tell(told, () -> x.at(station, 0, 0));
        }
        for (int v = 0; v < 31; v++) {
            int vehicle = v;
            tell(told, () -> x.vehicleAt(vehicle, 0, 0));
        }
        tell(told, () -> done(() -> x.duty(60, 0, 1)));
        tell(told, () -> x.missing(1, 0));
        tell(told, () -> x.limit(0));
        return told.toString();
    }

    private static int done(Due.Call call) {
        call.run();
        return 0;
    }

    private static void tell(StringBuilder told, Asked asked) {
        try {
            told.append(asked.answer());
        } catch (RuntimeException e) {
            told.append(e.getClass().getName());
        }
        told.append(' ');
    }
}
