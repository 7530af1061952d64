/** Promises 1 to 3: a new object, station, temporary. */
final class StationTest {
    private static final Due DUE = new Due();

    public static void main(String[] args) {
        newObjectHasNothing();
        stationsAreNumbered();
        stationRefuses();
        temporaryIsThereForItsTime();
        temporaryRefuses();
        rangesComeBeforeRoom();
        DUE.end();
    }

    private static void newObjectHasNothing() {
        StationRows x = new StationRows();
        DUE.unknown("new: on", () -> x.on(0, 0));
        DUE.unknown("new: vehicleAt", () -> x.vehicleAt(0, 0, 0));
        DUE.unknown("new: duty", () -> x.duty(0, 0, 1));
        DUE.same("new: missing", x.missing(0, 0), -1);
        DUE.same("new: holder", x.holder(0, 0), -1);
        DUE.same("new: twice", x.twice(), 0);
        DUE.same("new: limit", x.limit(0), 0);
        StationRows y = new StationRows();
        x.station(1);
        DUE.unknown("new: objects share nothing", () -> y.on(0, 0));
    }

    private static void stationsAreNumbered() {
        StationRows x = new StationRows();
        DUE.same("station(1)", x.station(1), 0);
        DUE.same("temporary(6, 0, 1)", x.temporary(6, 0, 1), 1);
        DUE.same("station(6)", x.station(6), 2);
        x.person(2, 0);
        x.duty(0, 0, 99999);
        DUE.same("an ordinary station is there at first", x.on(2, 0), 1);
        DUE.same("an ordinary station is there late", x.on(2, 99998), 1);
        x.period(2, 0, 1);
        DUE.same("an ordinary station is there at the last minute", x.missing(99999, 0), 20);
    }

    private static void stationRefuses() {
        StationRows x = new StationRows();
        DUE.outside("station(0)", () -> x.station(0));
        DUE.outside("station(7)", () -> x.station(7));
        DUE.outside("station(-1)", () -> x.station(-1));
        DUE.outside("station(least)", () -> x.station(Integer.MIN_VALUE));
        DUE.outside("station(greatest)", () -> x.station(Integer.MAX_VALUE));
        DUE.same("refused ones leave no station", x.station(3), 0);
    }

    private static void temporaryIsThereForItsTime() {
        StationRows x = new StationRows();
        x.temporary(1, 10, 20);
        x.person(0, 0);
        x.duty(0, 0, 99999);
        DUE.same("before", x.on(0, 9), 0);
        DUE.same("first", x.on(0, 10), 1);
        DUE.same("last", x.on(0, 19), 1);
        DUE.same("behind", x.on(0, 20), 0);
        DUE.same("the longest time", x.temporary(1, 0, 99999), 1);
        x.period(1, 2, 1);
        DUE.same("the longest time has the first minute", x.missing(0, 0), 12);
        DUE.same("the longest time has 99998", x.missing(99998, 0), 12);
        DUE.same("no time has 99999", x.missing(99999, 0), -1);
    }

    private static void temporaryRefuses() {
        StationRows x = new StationRows();
        DUE.outside("doors 0", () -> x.temporary(0, 1, 2));
        DUE.outside("doors 7", () -> x.temporary(7, 1, 2));
        DUE.outside("from -1", () -> x.temporary(1, -1, 2));
        DUE.outside("to 100000", () -> x.temporary(1, 1, 100000));
        DUE.outside("both beyond", () -> x.temporary(1, 100000, 100001));
        DUE.outside("no minute", () -> x.temporary(1, 5, 5));
        DUE.outside("backwards", () -> x.temporary(1, 6, 5));
        DUE.outside("to below 0", () -> x.temporary(1, 0, -1));
        DUE.same("refused ones leave no station", x.temporary(1, 99998, 99999), 0);
    }

    private static void rangesComeBeforeRoom() {
        StationRows x = new StationRows();
        for (int i = 0; i < 12; i++) {
            DUE.same("station " + i, i % 2 == 0 ? x.station(1) : x.temporary(1, 0, 1), i);
        }
        DUE.noRoom("a 13th", () -> x.station(6));
        DUE.noRoom("a 13th temporary one", () -> x.temporary(6, 0, 1));
        DUE.outside("doors before room", () -> x.station(7));
        DUE.outside("doors before room, temporary", () -> x.temporary(0, 0, 1));
        DUE.outside("times before room", () -> x.temporary(1, 1, 1));
        DUE.unknown("no 13th was kept", () -> x.on(12, 0));
    }
}
