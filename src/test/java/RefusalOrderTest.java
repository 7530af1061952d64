/** Calls that are wrong in several ways: unknown numbers, then ranges, then the state, then room. */
final class RefusalOrderTest {
    private static final String FIRST = "the first of these that is so";

    public static void main(String[] args) {
        Due.runAll(RefusalOrderTest.class);
    }

    @Says(in = "Terms", words = FIRST)
    static void station(Due due) {
        StationRows full = World.stations(12);
        due.outside("doors 0, no room", () -> full.station(0));
        due.outside("doors 7, no room", () -> full.station(7));
    }

    @Says(in = "Terms", words = FIRST)
    static void temporary(Due due) {
        StationRows full = World.stations(12);
        due.outside("doors 0, no room", () -> full.temporary(0, 0, 1));
        due.outside("doors 7, no room", () -> full.temporary(7, 0, 1));
        due.outside("from -1, no room", () -> full.temporary(1, -1, 1));
        due.outside("to 100000, no room", () -> full.temporary(1, 0, 100000));
        due.outside("no minute, no room", () -> full.temporary(1, 1, 1));
    }

    @Says(in = "Terms", words = FIRST)
    static void vehicle(Due due) {
        StationRows full = World.vehicles(30);
        for (int station : new int[] {-1, 6}) {
            due.unknown("station, no room", () -> full.vehicle(station, 0, 1));
            due.unknown("station, kind", () -> full.vehicle(station, 10, 1));
            due.unknown("station, crew", () -> full.vehicle(station, 0, -1));
        }
        due.outside("kind, no room", () -> full.vehicle(5, -1, 1));
        due.outside("crew, no room", () -> full.vehicle(5, 0, 10));
        due.outside("kind, no room, no door", () -> full.vehicle(0, 10, 1));
        StationRows x = World.vehicles(6);
        due.outside("kind, no door", () -> x.vehicle(0, 10, 1));
        due.outside("crew, no door", () -> x.vehicle(0, 0, -1));
        due.noRoom("no door", () -> x.vehicle(0, 0, 1));
    }

    @Says(in = "Terms", words = FIRST)
    static void out(Due due) {
        StationRows x = World.vehicles(1);
        for (int i = 0; i < 4; i++) {
            due.unknown("vehicle, times", () -> x.out(1, 5, 5));
            due.unknown("vehicle, a time that meets", () -> x.out(-1, 0, 5));
            x.out(0, 10 * i, 10 * i + 5);
            due.outside("times that meet, from -1", () -> x.out(0, -1, 1));
            due.outside("times that meet, to 100000", () -> x.out(0, 0, 100000));
            due.outside("times that meet, no minute", () -> x.out(0, 2, 2));
            due.outside("times that meet, backwards", () -> x.out(0, 3, 2));
        }
        due.unknown("vehicle, no room", () -> x.out(1, 50, 55));
        due.outside("times, no room", () -> x.out(0, 55, 50));
        due.wrongState("a time that meets, no room", () -> x.out(0, 34, 50));
        due.noRoom("no room", () -> x.out(0, 35, 50));
    }

    @Says(in = "Terms", words = FIRST)
    static void person(Due due) {
        StationRows full = World.persons(60);
        for (int station : new int[] {-1, 2}) {
            due.unknown("station, no room", () -> full.person(station, 0));
            due.unknown("station, distance", () -> full.person(station, 121));
            due.unknown("station, distance below", () -> full.person(station, -1));
        }
        due.outside("distance 121, no room", () -> full.person(0, 121));
        due.outside("distance -1, no room", () -> full.person(0, -1));
    }

    @Says(in = "Terms", words = FIRST)
    static void duty(Due due) {
        StationRows x = World.persons(1);
        for (int i = 0; i < 6; i++) {
            due.unknown("person, times", () -> x.duty(1, 5, 5));
            due.unknown("person, a time that meets", () -> x.duty(-1, 0, 5));
            x.duty(0, 10 * i, 10 * i + 5);
            due.outside("times that meet, from -1", () -> x.duty(0, -1, 1));
            due.outside("times that meet, to 100000", () -> x.duty(0, 0, 100000));
            due.outside("times that meet, no minute", () -> x.duty(0, 2, 2));
            due.outside("times that meet, backwards", () -> x.duty(0, 3, 2));
        }
        due.unknown("person, no room", () -> x.duty(1, 70, 75));
        due.outside("times, no room", () -> x.duty(0, 75, 70));
        due.wrongState("a time that meets, no room", () -> x.duty(0, 54, 70));
        due.noRoom("no room", () -> x.duty(0, 55, 70));
    }

    @Says(in = "Terms", words = FIRST)
    static void moveUnknown(Due due) {
        StationRows x = fullMoves();
        due.unknown("person and station", () -> x.move(1, 2, 50, 60));
        due.unknown("person, times", () -> x.move(1, 1, 60, 60));
        due.unknown("person, home of another one", () -> x.move(1, 0, 50, 60));
        due.unknown("station, times", () -> x.move(0, 2, 60, 60));
        due.unknown("station -1, times", () -> x.move(0, -1, -1, 60));
        due.unknown("station, a time that meets", () -> x.move(0, 2, 0, 5));
        due.unknown("station, no room", () -> x.move(0, 2, 50, 60));
    }

    @Says(in = "Terms", words = FIRST)
    static void moveTimes(Due due) {
        StationRows x = fullMoves();
        due.outside("times, home", () -> x.move(0, 0, 60, 60));
        due.outside("times, home, to 100000", () -> x.move(0, 0, 60, 100000));
        due.outside("times that meet, from -1", () -> x.move(0, 1, -1, 1));
        due.outside("times that meet, no minute", () -> x.move(0, 1, 2, 2));
        due.outside("times, no room", () -> x.move(0, 1, 60, 50));
    }

    @Says(in = "Terms", words = FIRST)
    static void moveStateBeforeRoom(Due due) {
        StationRows x = fullMoves();
        due.wrongState("home, no room", () -> x.move(0, 0, 50, 60));
        due.wrongState("a time that meets, no room", () -> x.move(0, 1, 24, 60));
        due.wrongState("home and a time that meets", () -> x.move(0, 0, 0, 5));
        due.noRoom("no room", () -> x.move(0, 1, 25, 60));
    }

    /** One person, at home at station 0 of two, moved for 0 .. 5, 10 .. 15 and 20 .. 25. */
    private static StationRows fullMoves() {
        StationRows x = World.persons(1);
        for (int i = 0; i < 3; i++) {
            x.move(0, 1, 10 * i, 10 * i + 5);
        }
        return x;
    }

    @Says(in = "Terms", words = FIRST)
    static void questionsOfStations(Due due) {
        StationRows x = World.stations(1);
        for (int station : new int[] {-1, 1}) {
            for (int t : new int[] {-1, 100000}) {
                due.unknown("on: station, minute", () -> x.on(station, t));
                due.unknown("at: station, minute", () -> x.at(station, t, 0));
                due.unknown("at: station, minute, i", () -> x.at(station, t, -1));
                due.unknown("lacks: station, minute", () -> x.lacks(station, t));
            }
            due.unknown("at: station, i", () -> x.at(station, 0, -1));
        }
        due.outside("at: minute, i", () -> x.at(0, 100000, -1));
    }

    @Says(in = "Terms", words = FIRST)
    static void vehicleAt(Due due) {
        StationRows x = World.vehicles(1);
        for (int t : new int[] {-1, 100000}) {
            due.unknown("vehicle, minute", () -> x.vehicleAt(1, t, 0));
            due.unknown("vehicle -1, minute", () -> x.vehicleAt(-1, t, 6));
            due.unknown("what, minute", () -> x.vehicleAt(0, t, 7));
            due.unknown("what -1, minute", () -> x.vehicleAt(0, t, -1));
            due.unknown("all three", () -> x.vehicleAt(1, t, 7));
        }
    }

    @Says(in = "Terms", words = FIRST)
    static void need(Due due) {
        StationRows x = World.stations(1);
        due.unknown("station, hour", () -> x.need(1, 24, 0));
        due.unknown("station, n", () -> x.need(1, 0, 61));
        due.unknown("station -1, hour, n", () -> x.need(-1, -1, -1));
        due.outside("hour, n", () -> x.need(0, 24, 61));
    }

    @Says(in = "Terms", words = FIRST)
    static void periodAndCheck(Due due) {
        StationRows x = World.stations(1);
        due.unknown("period: station, minutes", () -> x.period(1, 0, 10000));
        due.unknown("period: check, minutes", () -> x.period(0, 5, -1));
        due.unknown("period: all three", () -> x.period(-1, -1, -1));
        due.unknown("check: station, minute", () -> x.check(1, 0, 100000));
        due.unknown("check: check, minute", () -> x.check(0, 5, -1));
        World.checks(x, 200);
        due.unknown("check: station, no room", () -> x.check(1, 0, 0));
        due.unknown("check: check, no room", () -> x.check(0, 5, 0));
        due.unknown("check: check -1, no room", () -> x.check(0, -1, 0));
        due.outside("check: minute -1, no room", () -> x.check(0, 0, -1));
        due.outside("check: minute 100000, no room", () -> x.check(0, 0, 100000));
        due.noRoom("check: no room", () -> x.check(0, 0, 0));
    }

    @Says(in = "Terms", words = FIRST)
    static void keyAndRows(Due due) {
        StationRows x = World.stations(1);
        due.unknown("key: station, key", () -> x.key(1, 100, true));
        due.unknown("key: station, it is so", () -> x.key(1, 0, false));
        due.unknown("key: station -1, key -1", () -> x.key(-1, -1, false));
        due.outside("key: key, it is so", () -> x.key(0, 100, false));
        due.outside("key: key -1, it is so", () -> x.key(0, -1, false));
        due.wrongState("key: it is so", () -> x.key(0, 99, false));
        due.outside("holder: key, i", () -> x.holder(100, -1));
        due.outside("missing: minute, i", () -> x.missing(100000, -1));
    }
}
