/** The boundaries of promises 9 to 11: limit, on, at. */
final class PresenceEdgeTest {
    public static void main(String[] args) {
        Due.runAll(PresenceEdgeTest.class);
    }

    @Says(in = "Promise 9", words = "IndexOutOfBoundsException: it is not 0 .. 120.")
    static void limits(Due due) {
        due.range("limit", 0, 120, minutes -> World.persons(1).limit(minutes));
    }

    @Says(in = "Promise 9", words = "how many persons are beyond it")
    static void limitCountsThoseAboveIt(Due due) {
        StationRows x = World.stations(1);
        for (int distance : new int[] {120, 0, 60, 1, 119, 60}) {
            x.person(0, distance);
        }
        int[] limits = {0, 1, 59, 60, 61, 118, 119, 120};
        int[] beyond = {5, 4, 4, 2, 2, 2, 1, 0};
        for (int i = 0; i < limits.length; i++) {
            due.same("limit(" + limits[i] + ")", x.limit(limits[i]), beyond[i]);
        }
    }

    @Says(in = "Promise 9", words = "how many persons are beyond it")
    static void limitOfNoneAndOfSixty(Due due) {
        StationRows x = World.stations(1);
        due.same("of none", x.limit(0), 0);
        for (int p = 0; p < 60; p++) {
            x.person(0, 1);
        }
        due.same("of sixty, all beyond", x.limit(0), 60);
        due.same("of sixty, none beyond", x.limit(1), 0);
    }

    @Says(in = "Terms", words = "and the distance is not above the LIMIT")
    static void distanceBelowAtAndAboveTheLimit(Due due) {
        StationRows x = World.stations(1);
        World.crew(x, 0, 0, 59, 60, 61);
        x.limit(60);
        due.same("on", x.on(0, 0), 2);
        due.same("below it", x.at(0, 0, 0), 0);
        due.same("at it", x.at(0, 0, 1), 1);
        due.same("not above it", x.at(0, 0, 2), -1);
        x.limit(61);
        due.same("one more: on", x.on(0, 0), 3);
        x.limit(59);
        due.same("one less: on", x.on(0, 0), 1);
        x.limit(58);
        due.same("one less again: on", x.on(0, 0), 0);
    }

    @Says(in = "Terms", words = "and the distance is not above the LIMIT")
    static void limitOfZeroKeepsDistanceZero(Due due) {
        StationRows x = World.stations(1);
        x.vehicle(0, 0, 1);
        World.crew(x, 0, 0, 1, 0);
        x.need(0, 0, 2);
        due.same("limit(0)", x.limit(0), 1);
        due.same("on", x.on(0, 0), 1);
        due.same("at", x.at(0, 0, 0), 1);
        due.same("manned by it", x.vehicleAt(0, 0, 3), 1);
        due.same("lacks the other one", x.lacks(0, 0), 1);
    }

    @Says(in = "Promise 9", words = "IndexOutOfBoundsException: it is not 0 .. 120.")
    static void refusedLimitChangesNothing(Due due) {
        StationRows x = World.stations(1);
        World.crew(x, 0, 0, 0, 50, 120);
        x.limit(50);
        for (int minutes : new int[] {-1, 121, Integer.MIN_VALUE, Integer.MAX_VALUE}) {
            due.outside("limit(" + minutes + ")", () -> x.limit(minutes));
            due.same("on", x.on(0, 0), 2);
        }
        StationRows y = World.stations(1);
        World.crew(y, 0, 0, 120);
        due.outside("limit(-1) of a new object", () -> y.limit(-1));
        due.same("the limit is 120 as at first", y.on(0, 0), 1);
    }

    @Says(in = "Promise 10", words = "IllegalArgumentException: no such station")
    static void onStations(Due due) {
        for (int count : new int[] {0, 1, 2, 12}) {
            StationRows x = World.stations(count);
            due.numbers("on, station of " + count, count, s -> x.on(s, 0));
        }
    }

    @Says(in = "Promise 10", words = "IndexOutOfBoundsException: the minute.")
    static void onMinutes(Due due) {
        StationRows x = World.persons(1);
        due.range("on, minute", 0, 99999, t -> x.on(0, t));
    }

    @Says(in = "Promise 10", words = "How many persons a station has at a minute.")
    static void onOfNoneOneAndSixty(Due due) {
        StationRows x = World.stations(1);
        due.same("of none", x.on(0, 0), 0);
        for (int p = 0; p < 60; p++) {
            x.person(0, p);
            x.duty(p, 0, 1);
            due.same("of " + (p + 1), x.on(0, 0), p + 1);
        }
        due.same("the minute behind", x.on(0, 1), 0);
    }

    @Says(in = "Promise 11", words = "Likewise")
    static void atStations(Due due) {
        for (int count : new int[] {0, 1, 2, 12}) {
            StationRows x = World.stations(count);
            due.numbers("at, station of " + count, count, s -> x.at(s, 0, 0));
        }
    }

    @Says(in = "Promise 11", words = "Likewise")
    static void atMinutes(Due due) {
        StationRows x = World.persons(1);
        due.range("at, minute", 0, 99999, t -> x.at(0, t, 0));
    }

    @Says(in = "Promise 11", words = "IndexOutOfBoundsException: also i below 0.")
    static void atPlacesBelowNull(Due due) {
        StationRows x = World.stations(1);
        for (int i : new int[] {-1, -2, Integer.MIN_VALUE}) {
            due.outside("of none, i " + i, () -> x.at(0, 0, i));
        }
        World.crew(x, 0, 0, 0, 0);
        for (int i : new int[] {-1, -2, Integer.MIN_VALUE}) {
            due.outside("of two, i " + i, () -> x.at(0, 0, i));
        }
        due.same("of two, i 0", x.at(0, 0, 0), 0);
    }

    @Says(in = "Promise 11", words = "-1 when there are not so many")
    static void atTheLastPlaceAndBehindIt(Due due) {
        StationRows x = World.stations(1);
        due.same("of none, 0", x.at(0, 0, 0), -1);
        World.crew(x, 0, 0, 7);
        due.same("of one, 0", x.at(0, 0, 0), 0);
        due.same("of one, 1", x.at(0, 0, 1), -1);
        World.crew(x, 0, 1, 6);
        due.same("of two, 0", x.at(0, 0, 0), 1);
        due.same("of two, 1", x.at(0, 0, 1), 0);
        due.same("of two, 2", x.at(0, 0, 2), -1);
        due.same("of two, far behind", x.at(0, 0, Integer.MAX_VALUE), -1);
    }

    @Says(in = "Promise 11", words = "-1 when there are not so many")
    static void atOfSixty(Due due) {
        StationRows x = World.stations(1);
        for (int p = 0; p < 60; p++) {
            x.person(0, 119 - 2 * p);
            x.duty(p, 0, 1);
        }
        for (int i = 0; i < 60; i++) {
            due.same("at(0, 0, " + i + ")", x.at(0, 0, i), 59 - i);
        }
        due.same("the 61st", x.at(0, 0, 60), -1);
        due.same("far behind", x.at(0, 0, Integer.MAX_VALUE), -1);
        due.same("the minute behind", x.at(0, 1, 0), -1);
    }

    @Says(in = "Terms", words = "those of less distance first, of the same by numbers")
    static void sameDistanceIsByNumbers(Due due) {
        StationRows x = World.stations(2);
        World.crew(x, 0, 0, 1, 0);
        World.crew(x, 1, 2, 0);
        World.crew(x, 0, 3, 1, 0);
        x.move(2, 0, 0, 10);
        int[] row = {1, 2, 4, 0, 3, -1};
        for (int i = 0; i < row.length; i++) {
            due.same("at(0, 9, " + i + ")", x.at(0, 9, i), row[i]);
        }
        int[] later = {1, 4, 0, 3, -1};
        for (int i = 0; i < later.length; i++) {
            due.same("at(0, 10, " + i + ")", x.at(0, 10, i), later[i]);
        }
    }

    @Says(in = "Terms", words = "those of less distance first, of the same by numbers")
    static void sixtyOfTheSameDistance(Due due) {
        StationRows x = World.stations(1);
        for (int p = 0; p < 60; p++) {
            x.person(0, 120);
            x.duty(p, 0, 1);
        }
        for (int i = 0; i < 60; i++) {
            due.same("at(0, 0, " + i + ")", x.at(0, 0, i), i);
        }
    }

    @Says(in = "Terms", words = "The PERSONS OF A STATION at a minute are those on duty there")
    static void refusedQuestionsChangeNothing(Due due) {
        StationRows x = World.stations(2);
        World.crew(x, 0, 0, 3, 2);
        due.unknown("on(2, 0)", () -> x.on(2, 0));
        due.outside("on(0, 100000)", () -> x.on(0, 100000));
        due.outside("at(0, 0, -1)", () -> x.at(0, 0, -1));
        due.same("on", x.on(0, 0), 2);
        due.same("the first", x.at(0, 0, 0), 1);
        due.same("the second", x.at(0, 0, 1), 0);
    }
}
