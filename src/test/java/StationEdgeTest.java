/** The boundaries of promises 1 to 3: a new object, station, temporary. */
final class StationEdgeTest {
    public static void main(String[] args) {
        Due.runAll(StationEdgeTest.class);
    }

    @Says(in = "Promise 1", words = "Nothing.")
    static void newObjectKnowsNoStation(Due due) {
        StationRows x = new StationRows();
        due.numbers("vehicle, station", 0, s -> x.vehicle(s, 0, 1));
        due.numbers("person, station", 0, s -> x.person(s, 0));
        due.numbers("on, station", 0, s -> x.on(s, 0));
        due.numbers("at, station", 0, s -> x.at(s, 0, 0));
        due.numbers("need, station", 0, s -> x.need(s, 0, 0));
        due.numbers("lacks, station", 0, s -> x.lacks(s, 0));
        due.numbers("period, station", 0, s -> x.period(s, 0, 0));
        due.numbers("check, station", 0, s -> x.check(s, 0, 0));
        due.numbers("key, station", 0, s -> x.key(s, 0, true));
    }

    @Says(in = "Promise 1", words = "Nothing.")
    static void newObjectKnowsNoVehicleAndNoPerson(Due due) {
        StationRows x = new StationRows();
        due.numbers("out, vehicle", 0, v -> x.out(v, 0, 1));
        due.numbers("vehicleAt, vehicle", 0, v -> x.vehicleAt(v, 0, 0));
        due.numbers("duty, person", 0, p -> x.duty(p, 0, 1));
        due.numbers("move, person", 0, p -> x.move(p, 0, 0, 1));
    }

    @Says(in = "Promise 1", words = "Nothing.")
    static void newObjectAnswersNothing(Due due) {
        StationRows x = new StationRows();
        for (int i : new int[] {0, 1, Integer.MAX_VALUE}) {
            due.same("missing(0, " + i + ")", x.missing(0, i), -1);
            due.same("missing(99999, " + i + ")", x.missing(99999, i), -1);
            due.same("holder(0, " + i + ")", x.holder(0, i), -1);
            due.same("holder(99, " + i + ")", x.holder(99, i), -1);
        }
        due.same("twice()", x.twice(), 0);
        due.same("limit(120)", x.limit(120), 0);
        due.same("limit(0)", x.limit(0), 0);
    }

    @Says(in = "Promise 1", words = "Nothing.")
    static void newObjectHasNothingOfAnotherOne(Due due) {
        StationRows full = World.vehicles(1);
        World.crew(full, 0, 0, 0);
        full.key(0, 0, true);
        full.key(1, 0, true);
        full.limit(0);
        StationRows x = new StationRows();
        due.unknown("on", () -> x.on(0, 0));
        due.unknown("vehicleAt", () -> x.vehicleAt(0, 0, 0));
        due.unknown("duty", () -> x.duty(0, 5000, 5001));
        due.same("holder", x.holder(0, 0), -1);
        due.same("twice", x.twice(), 0);
        x.station(1);
        World.crew(x, 0, 0, 120);
        due.same("its limit is its own", x.on(0, 0), 1);
    }

    @Says(in = "Promise 1", words = "Nothing.")
    static void newStationHasNothing(Due due) {
        StationRows x = World.stations(1);
        due.same("on", x.on(0, 0), 0);
        due.same("at", x.at(0, 0, 0), -1);
        due.same("missing", x.missing(99999, 0), -1);
        for (int hour = 0; hour < 24; hour++) {
            due.same("lacks in hour " + hour, x.lacks(0, 60 * hour), 0);
        }
    }

    @Says(in = "Terms", words = "the LIMIT (120 at first)")
    static void limitAtFirst(Due due) {
        StationRows x = World.stations(1);
        World.crew(x, 0, 0, 120);
        due.same("on, at the greatest distance", x.on(0, 0), 1);
    }

    @Says(in = "Promise 2", words = "IndexOutOfBoundsException: doors")
    static void stationDoors(Due due) {
        due.range("station, doors", 1, 6, doors -> new StationRows().station(doors));
    }

    @Says(in = "Terms", words = "each station has as many as doors at most")
    static void stationHasItsDoors(Due due) {
        for (int doors = 1; doors <= 6; doors++) {
            StationRows x = new StationRows();
            x.station(doors);
            x.station(6);
            fillDoors(due, x, doors);
        }
    }

    @Says(in = "Promise 2", words = "One more station: its number.")
    static void stationsAreNumberedFromNull(Due due) {
        StationRows x = new StationRows();
        for (int s = 0; s < 12; s++) {
            due.same("station " + s, x.station(1 + s % 6), s);
            int next = s + 1;
            due.same("known from now on", x.on(s, 0), 0);
            due.unknown("station " + next + " is not known yet", () -> x.on(next, 0));
        }
    }

    @Says(in = "Promise 2", words = "UnsupportedOperationException: there are 12.")
    static void stationsJustFull(Due due) {
        StationRows x = World.stations(11);
        due.same("the twelfth", x.station(6), 11);
        for (int doors = 1; doors <= 6; doors++) {
            int asked = doors;
            due.noRoom("a 13th with doors " + doors, () -> x.station(asked));
        }
        due.unknown("no 13th was kept", () -> x.on(12, 0));
        due.same("the twelfth is known", x.on(11, 0), 0);
    }

    @Says(in = "Promise 2", words = "IndexOutOfBoundsException: doors")
    static void refusedStationTakesNoNumber(Due due) {
        StationRows x = new StationRows();
        due.outside("doors 0", () -> x.station(0));
        due.outside("doors 7", () -> x.station(7));
        due.unknown("station 0 is not known", () -> x.on(0, 0));
        for (int s = 0; s < 12; s++) {
            due.same("station " + s, x.station(6), s);
            due.outside("doors 7", () -> x.station(7));
        }
        due.noRoom("a 13th", () -> x.station(6));
    }

    @Says(in = "Promise 3", words = "IndexOutOfBoundsException: doors, or times")
    static void temporaryDoors(Due due) {
        due.range("temporary, doors", 1, 6, doors -> new StationRows().temporary(doors, 0, 1));
    }

    @Says(in = "Promise 3", words = "IndexOutOfBoundsException: doors, or times")
    static void temporaryTimes(Due due) {
        due.times("temporary", (from, to) -> new StationRows().temporary(1, from, to));
    }

    @Says(in = "Terms", words = "each station has as many as doors at most")
    static void temporaryHasItsDoors(Due due) {
        for (int doors = 1; doors <= 6; doors++) {
            StationRows x = new StationRows();
            x.temporary(doors, 99998, 99999);
            x.station(6);
            fillDoors(due, x, doors);
        }
    }

    private static void fillDoors(Due due, StationRows x, int doors) {
        for (int v = 0; v < doors; v++) {
            due.same("behind door " + v + " of " + doors, x.vehicle(0, 0, 1), v);
        }
        due.noRoom("one more behind " + doors, () -> x.vehicle(0, 0, 1));
        due.same("behind a door of the other station", x.vehicle(1, 0, 1), doors);
    }

    @Says(in = "Promise 3", words = "UnsupportedOperationException: likewise.")
    static void temporaryJustFull(Due due) {
        StationRows x = new StationRows();
        for (int s = 0; s < 12; s++) {
            due.same("temporary " + s, x.temporary(1, s, s + 1), s);
        }
        due.noRoom("a 13th", () -> x.temporary(1, 0, 1));
        due.noRoom("a 13th that is not temporary", () -> x.station(1));
        due.unknown("no 13th was kept", () -> x.on(12, 0));
    }

    @Says(in = "Promise 3", words = "UnsupportedOperationException: likewise.")
    static void temporaryCountsWithTheOthers(Due due) {
        StationRows x = World.stations(11);
        due.same("the twelfth", x.temporary(6, 0, 1), 11);
        due.noRoom("a 13th", () -> x.temporary(6, 0, 1));
        due.noRoom("a 13th that is not temporary", () -> x.station(6));
    }

    @Says(in = "Promise 3", words = "IndexOutOfBoundsException: doors, or times")
    static void refusedTemporaryTakesNoNumber(Due due) {
        StationRows x = new StationRows();
        due.outside("doors 0", () -> x.temporary(0, 0, 1));
        due.outside("no minute", () -> x.temporary(1, 1, 1));
        due.outside("to 100000", () -> x.temporary(1, 1, 100000));
        due.unknown("station 0 is not known", () -> x.on(0, 0));
        due.same("the first one", x.temporary(1, 0, 1), 0);
    }

    @Says(in = "Terms", words = "a temporary one is there for a time only")
    static void temporaryBeforeAtAndBehindItsTime(Due due) {
        StationRows x = new StationRows();
        x.temporary(1, 100, 200);
        x.vehicle(0, 0, 1);
        World.crew(x, 0, 0, 0);
        x.need(0, 1, 5);
        x.need(0, 3, 5);
        x.period(0, 0, 1);
        int[] minutes = {0, 99, 100, 199, 200, 999};
        int[] there = {0, 0, 1, 1, 0, 0};
        for (int i = 0; i < minutes.length; i++) {
            int t = minutes[i];
            due.same("on at " + t, x.on(0, t), there[i]);
            due.same("at at " + t, x.at(0, t, 0), there[i] - 1);
            due.same("manned at " + t, x.vehicleAt(0, t, 0), 2 * there[i]);
            due.same("missing at " + t, x.missing(t, 0), there[i] - 1);
        }
        due.same("lacks at 99", x.lacks(0, 99), 0);
        due.same("lacks at 100", x.lacks(0, 100), 4);
        due.same("lacks at 199", x.lacks(0, 199), 4);
        due.same("lacks at 200", x.lacks(0, 200), 0);
    }

    @Says(in = "Terms", words = "a temporary one is there for a time only")
    static void temporaryAtTheFirstAndTheLastMinutes(Due due) {
        StationRows x = new StationRows();
        x.temporary(1, 0, 1);
        x.temporary(1, 99998, 99999);
        x.period(0, 0, 1);
        x.period(1, 0, 1);
        due.same("at 0", x.missing(0, 0), 0);
        due.same("at 0 alone", x.missing(0, 1), -1);
        due.same("at 1", x.missing(1, 0), -1);
        due.same("at 99997", x.missing(99997, 0), -1);
        due.same("at 99998", x.missing(99998, 0), 10);
        due.same("at 99999", x.missing(99999, 0), -1);
    }
}
