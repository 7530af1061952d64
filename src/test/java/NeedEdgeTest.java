/** The boundaries of promises 13 and 14: need, lacks. */
final class NeedEdgeTest {
    public static void main(String[] args) {
        Due.runAll(NeedEdgeTest.class);
    }

    @Says(in = "Promise 13", words = "IllegalArgumentException: no such station")
    static void needStations(Due due) {
        for (int count : new int[] {0, 1, 2, 12}) {
            StationRows x = World.stations(count);
            due.numbers("need, station of " + count, count, s -> x.need(s, 0, 1));
        }
    }

    @Says(in = "Promise 13", words = "IndexOutOfBoundsException: the hour (0 .. 23)")
    static void needHours(Due due) {
        StationRows x = World.stations(1);
        due.range("need, hour", 0, 23, hour -> x.need(0, hour, 1));
    }

    @Says(in = "Promise 13", words = "or n (0 .. 60)")
    static void needNumbers(Due due) {
        StationRows x = World.stations(1);
        due.range("need, n", 0, 60, n -> x.need(0, 0, n));
        due.same("the greatest that was taken", x.lacks(0, 0), 60);
    }

    @Says(in = "Promise 13", words = "IndexOutOfBoundsException: the hour (0 .. 23), or n (0 .. 60).")
    static void refusedNeedChangesNothing(Due due) {
        StationRows x = World.stations(2);
        x.need(0, 5, 4);
        due.outside("n 61", () -> x.need(0, 5, 61));
        due.outside("n -1", () -> x.need(0, 5, -1));
        due.outside("hour 24", () -> x.need(0, 24, 9));
        due.outside("hour -1", () -> x.need(1, -1, 9));
        due.unknown("station 2", () -> x.need(2, 5, 9));
        for (int hour = 0; hour < 24; hour++) {
            due.same("lacks of station 0 in hour " + hour, x.lacks(0, 60 * hour), hour == 5 ? 4 : 0);
            due.same("lacks of station 1 in hour " + hour, x.lacks(1, 60 * hour), 0);
        }
    }

    @Says(in = "Terms", words = "the greatest of all that were told")
    static void needsToldUpAndDown(Due due) {
        StationRows x = World.stations(1);
        int[] told = {0, 3, 2, 3, 4, 0, 60, 59};
        int[] needed = {0, 3, 3, 3, 4, 4, 60, 60};
        for (int i = 0; i < told.length; i++) {
            x.need(0, 0, told[i]);
            due.same("lacks behind need " + told[i], x.lacks(0, 0), needed[i]);
        }
    }

    @Says(in = "Terms", words = "a station needs so many persons in an hour")
    static void needsOfEachStationAndHourAreTheirOwn(Due due) {
        StationRows x = World.stations(12);
        x.need(0, 23, 1);
        x.need(1, 0, 2);
        x.need(10, 23, 3);
        x.need(11, 0, 4);
        x.need(11, 23, 5);
        due.same("lacks(0, 1379)", x.lacks(0, 1379), 0);
        due.same("lacks(0, 1380)", x.lacks(0, 1380), 1);
        due.same("lacks(0, 1440)", x.lacks(0, 1440), 0);
        due.same("lacks(1, 1439)", x.lacks(1, 1439), 0);
        due.same("lacks(1, 1440)", x.lacks(1, 1440), 2);
        due.same("lacks(10, 1439)", x.lacks(10, 1439), 3);
        due.same("lacks(11, 0)", x.lacks(11, 0), 4);
        due.same("lacks(11, 60)", x.lacks(11, 60), 0);
        due.same("lacks(11, 1439)", x.lacks(11, 1439), 5);
    }

    @Says(in = "Promise 14", words = "IllegalArgumentException: no such station")
    static void lacksStations(Due due) {
        for (int count : new int[] {0, 1, 2, 12}) {
            StationRows x = World.stations(count);
            due.numbers("lacks, station of " + count, count, s -> x.lacks(s, 0));
        }
    }

    @Says(in = "Promise 14", words = "IndexOutOfBoundsException: the minute.")
    static void lacksMinutes(Due due) {
        StationRows x = World.stations(1);
        due.range("lacks, minute", 0, 99999, t -> x.lacks(0, t));
    }

    @Says(in = "Terms", words = "it LACKS what it has less")
    static void oneLessJustEnoughOneMore(Due due) {
        StationRows x = World.stations(1);
        x.need(0, 0, 2);
        due.same("none of two", x.lacks(0, 0), 2);
        World.crew(x, 0, 0, 0);
        due.same("one of two", x.lacks(0, 0), 1);
        World.crew(x, 0, 1, 120);
        due.same("two of two", x.lacks(0, 0), 0);
        World.crew(x, 0, 2, 0);
        due.same("three of two", x.lacks(0, 0), 0);
        due.same("three without a need", x.lacks(0, 60), 0);
    }

    @Says(in = "Terms", words = "it LACKS what it has less")
    static void sixtyOfSixty(Due due) {
        StationRows x = World.stations(1);
        x.need(0, 0, 60);
        for (int p = 0; p < 60; p++) {
            due.same("lacks with " + p, x.lacks(0, 0), 60 - p);
            x.person(0, 0);
            x.duty(p, 0, 30);
        }
        due.same("lacks with 60", x.lacks(0, 0), 0);
        due.same("at the last minute of the duties", x.lacks(0, 29), 0);
        due.same("the minute behind them", x.lacks(0, 30), 60);
    }

    @Says(in = "Promise 14", words = "(0 when it is not there)")
    static void lacksOfAStationThatIsNotThere(Due due) {
        StationRows x = new StationRows();
        x.temporary(1, 10, 20);
        x.need(0, 0, 60);
        int[] minutes = {0, 9, 10, 19, 20, 59};
        int[] lacks = {0, 0, 60, 60, 0, 0};
        for (int i = 0; i < minutes.length; i++) {
            due.same("lacks(0, " + minutes[i] + ")", x.lacks(0, minutes[i]), lacks[i]);
        }
    }

    @Says(in = "Promise 14", words = "How many persons a station lacks at a minute")
    static void movedPersonsCountWhereTheyAre(Due due) {
        StationRows x = World.stations(2);
        World.crew(x, 0, 0, 0);
        x.move(0, 1, 10, 20);
        x.need(0, 0, 1);
        x.need(1, 0, 1);
        for (int t : new int[] {9, 10, 19, 20}) {
            boolean moved = t >= 10 && t < 20;
            due.same("home at " + t, x.lacks(0, t), moved ? 1 : 0);
            due.same("the other one at " + t, x.lacks(1, t), moved ? 0 : 1);
        }
    }
}
