/** The boundaries of promises 15 to 17: period, check, missing. */
final class CheckEdgeTest {
    private static final int LAST = 99999;

    public static void main(String[] args) {
        Due.runAll(CheckEdgeTest.class);
    }

    @Says(in = "Promise 15", words = "IllegalArgumentException: no such station or check")
    static void periodStations(Due due) {
        for (int count : new int[] {0, 1, 2, 12}) {
            StationRows x = World.stations(count);
            due.numbers("period, station of " + count, count, s -> x.period(s, 0, 1));
        }
    }

    @Says(in = "Promise 15", words = "IllegalArgumentException: no such station or check")
    static void periodChecks(Due due) {
        StationRows x = World.stations(2);
        due.numbers("period, check", 5, check -> x.period(0, check, 1));
    }

    @Says(in = "Promise 15", words = "IndexOutOfBoundsException: it is not 0 .. 9,999.")
    static void periodMinutes(Due due) {
        StationRows x = World.stations(1);
        due.range("period, minutes", 0, 9999, minutes -> x.period(0, 0, minutes));
    }

    @Says(in = "Promise 15", words = "IndexOutOfBoundsException: it is not 0 .. 9,999.")
    static void refusedPeriodChangesNothing(Due due) {
        StationRows x = World.stations(2);
        x.period(0, 1, 10);
        due.outside("minutes -1", () -> x.period(0, 1, -1));
        due.outside("minutes 10000", () -> x.period(0, 1, 10000));
        due.unknown("check 5", () -> x.period(0, 5, 1));
        due.unknown("check -1", () -> x.period(1, -1, 1));
        due.unknown("station 2", () -> x.period(2, 0, 1));
        due.same("not missing yet", x.missing(8, 0), -1);
        due.same("missing", x.missing(9, 0), 1);
        due.same("no other one", x.missing(LAST, 1), -1);
    }

    @Says(in = "Promise 15", words = "The period of a check (0: none).")
    static void periodOfNone(Due due) {
        StationRows x = World.stations(1);
        x.period(0, 0, 0);
        due.same("at 0", x.missing(0, 0), -1);
        due.same("at 99999", x.missing(LAST, 0), -1);
        x.period(0, 0, 1);
        due.same("with a period", x.missing(0, 0), 0);
        x.period(0, 0, 0);
        due.same("without it again", x.missing(0, 0), -1);
    }

    @Says(in = "Promise 15", words = "The period of a check")
    static void newPeriodTakesTheOldOnesPlace(Due due) {
        StationRows x = World.stations(1);
        x.check(0, 0, 100);
        x.period(0, 0, 10);
        due.same("10: the last minute", x.missing(109, 0), -1);
        due.same("10: the minute behind", x.missing(110, 0), 0);
        x.period(0, 0, 11);
        due.same("11: the last minute", x.missing(110, 0), -1);
        due.same("11: the minute behind", x.missing(111, 0), 0);
        x.period(0, 0, 9);
        due.same("9: the last minute", x.missing(108, 0), -1);
        due.same("9: the minute behind", x.missing(109, 0), 0);
    }

    @Says(in = "Promise 16", words = "IllegalArgumentException: likewise")
    static void checkStations(Due due) {
        for (int count : new int[] {0, 1, 2, 12}) {
            StationRows x = World.stations(count);
            due.numbers("check, station of " + count, count, s -> x.check(s, 0, 0));
        }
    }

    @Says(in = "Promise 16", words = "IllegalArgumentException: likewise")
    static void checkChecks(Due due) {
        StationRows x = World.stations(2);
        due.numbers("check, check", 5, check -> x.check(0, check, 0));
    }

    @Says(in = "Promise 16", words = "IndexOutOfBoundsException: the minute")
    static void checkMinutes(Due due) {
        StationRows x = World.stations(1);
        due.range("check, minute", 0, LAST, t -> x.check(0, 0, t));
        x.period(0, 0, 1);
        due.same("done at 0", x.missing(0, 0), -1);
        due.same("not done at 1", x.missing(1, 0), 0);
        due.same("not done at 99998", x.missing(LAST - 1, 0), 0);
        due.same("done at 99999", x.missing(LAST, 0), -1);
    }

    @Says(in = "Promise 16", words = "UnsupportedOperationException: 200 were done.")
    static void doneChecksJustFull(Due due) {
        StationRows x = World.stations(2);
        x.period(1, 4, 1);
        World.checks(x, 199);
        due.taken("the 200th", () -> x.check(1, 4, 7));
        due.same("the 200th holds", x.missing(7, 0), -1);
        due.noRoom("a 201st", () -> x.check(1, 4, 8));
        due.noRoom("a 201st that was done already", () -> x.check(0, 0, 0));
        due.same("no 201st was kept", x.missing(8, 0), 14);
    }

    @Says(in = "Promise 16", words = "UnsupportedOperationException: 200 were done.")
    static void doneChecksOfAllStationsCount(Due due) {
        StationRows x = World.stations(12);
        for (int i = 0; i < 200; i++) {
            int place = i;
            due.taken("check " + i, () -> x.check(place % 12, place % 5, place));
        }
        for (int s = 0; s < 12; s++) {
            int station = s;
            due.noRoom("a 201st at station " + s, () -> x.check(station, 0, 500));
        }
    }

    @Says(in = "Promise 16", words = "UnsupportedOperationException: 200 were done.")
    static void refusedCheckTakesNoRoom(Due due) {
        StationRows x = World.stations(1);
        for (int i = 0; i < 50; i++) {
            due.unknown("check 5", () -> x.check(0, 5, 0));
            due.unknown("station 1", () -> x.check(1, 0, 0));
            due.outside("minute 100000", () -> x.check(0, 0, 100000));
        }
        World.checks(x, 199);
        due.taken("the 200th", () -> x.check(0, 0, 0));
        due.noRoom("a 201st", () -> x.check(0, 0, 0));
    }

    @Says(in = "Promise 16", words = "IndexOutOfBoundsException: the minute")
    static void refusedCheckIsNotDone(Due due) {
        StationRows x = World.stations(1);
        x.period(0, 0, 9999);
        due.outside("minute -1", () -> x.check(0, 0, -1));
        due.outside("minute 100000", () -> x.check(0, 0, 100000));
        due.unknown("check 5", () -> x.check(0, 5, 50));
        due.same("missing at 9998", x.missing(9998, 0), 0);
        due.same("missing at 99999", x.missing(LAST, 0), 0);
    }

    @Says(in = "Promise 16", words = "A check is done.")
    static void checkWithoutAPeriodIsDoneToo(Due due) {
        StationRows x = World.stations(1);
        x.check(0, 3, 100);
        due.same("no period, none missing", x.missing(500, 0), -1);
        x.period(0, 3, 10);
        due.same("the minute before", x.missing(99, 0), 3);
        due.same("its minute", x.missing(100, 0), -1);
        due.same("the last minute", x.missing(109, 0), -1);
        due.same("the minute behind", x.missing(110, 0), 3);
    }

    @Says(in = "Promise 17", words = "IndexOutOfBoundsException: the minute, or i below 0.")
    static void missingMinutesAndPlaces(Due due) {
        StationRows x = World.stations(1);
        x.period(0, 0, 1);
        due.range("missing, minute", 0, LAST, t -> x.missing(t, 0));
        due.outside("i -1", () -> x.missing(0, -1));
        due.outside("i least", () -> x.missing(0, Integer.MIN_VALUE));
        due.outside("i -1 and a wrong minute", () -> x.missing(-1, -1));
        due.same("i 0", x.missing(0, 0), 0);
        due.same("i 1", x.missing(0, 1), -1);
        due.same("i greatest", x.missing(0, Integer.MAX_VALUE), -1);
    }

    @Says(in = "Terms", words = "(t - period + 1 .. t)")
    static void periodsMinutesUpToAndWithIt(Due due) {
        for (int minutes : new int[] {1, 2, 10, 9999}) {
            StationRows x = World.stations(1);
            int done = 20000;
            x.period(0, 2, minutes);
            x.check(0, 2, done);
            due.same("period " + minutes + ", the minute before", x.missing(done - 1, 0), 2);
            due.same("period " + minutes + ", its minute", x.missing(done, 0), -1);
            due.same("period " + minutes + ", the last minute", x.missing(done + minutes - 1, 0), -1);
            due.same("period " + minutes + ", the minute behind", x.missing(done + minutes, 0), 2);
        }
    }

    @Says(in = "Terms", words = "at none of the minutes below the period less 1 is one missing")
    static void minutesBelowThePeriodLessOne(Due due) {
        for (int minutes : new int[] {1, 2, 10, 9999}) {
            StationRows x = World.stations(1);
            x.period(0, 0, minutes);
            due.same("period " + minutes + ", the first missing", x.missing(minutes - 1, 0), 0);
            if (minutes > 1) {
                due.same("period " + minutes + ", the minute before", x.missing(minutes - 2, 0), -1);
                due.same("period " + minutes + ", minute 0", x.missing(0, 0), -1);
            }
            x.check(0, 0, 0);
            due.same("period " + minutes + ", done at 0", x.missing(minutes - 1, 0), -1);
            due.same("period " + minutes + ", the minute behind", x.missing(minutes, 0), 0);
        }
    }

    @Says(in = "Terms", words = "none was done in the period's minutes up to and with it")
    static void checksToldInAnyOrder(Due due) {
        StationRows x = World.stations(1);
        x.period(0, 0, 5);
        for (int t : new int[] {30, 20, 25, 10, 10}) {
            x.check(0, 0, t);
        }
        int[] missing = {9, 15, 19, 35, LAST};
        int[] done = {10, 14, 20, 24, 25, 29, 30, 34};
        for (int t : missing) {
            due.same("missing at " + t, x.missing(t, 0), 0);
        }
        for (int t : done) {
            due.same("done at " + t, x.missing(t, 0), -1);
        }
    }

    @Says(in = "Promise 17", words = "by stations, then checks: 10 times the station and the check")
    static void missingOfAllStationsAndChecks(Due due) {
        StationRows x = World.stations(12);
        for (int place = 59; place >= 0; place--) {
            x.period(place / 5, place % 5, 1);
        }
        for (int i = 0; i < 60; i++) {
            due.same("missing(0, " + i + ")", x.missing(0, i), 10 * (i / 5) + i % 5);
        }
        due.same("the 61st", x.missing(0, 60), -1);
        x.check(0, 0, 0);
        due.same("the first one is done", x.missing(0, 0), 1);
        x.check(11, 4, 0);
        due.same("the last one is done", x.missing(0, 57), 113);
        due.same("not so many", x.missing(0, 58), -1);
    }

    @Says(in = "Promise 17", words = "-1 when there are not so many")
    static void missingOfNoneAndOfOne(Due due) {
        StationRows x = World.stations(12);
        due.same("of none", x.missing(LAST, 0), -1);
        x.period(11, 4, 1);
        due.same("of one, 0", x.missing(LAST, 0), 114);
        due.same("of one, 1", x.missing(LAST, 1), -1);
        x.check(11, 4, LAST);
        due.same("of none again", x.missing(LAST, 0), -1);
    }

    @Says(in = "Promise 17", words = "(Of a station that is not there none is.)")
    static void missingOfAStationThatIsNotThere(Due due) {
        StationRows x = new StationRows();
        x.temporary(1, 100, 200);
        x.station(1);
        x.period(0, 4, 5);
        x.period(1, 0, 5);
        int[] minutes = {99, 100, 199, 200};
        int[] first = {10, 4, 4, 10};
        int[] second = {-1, 10, 10, -1};
        for (int i = 0; i < minutes.length; i++) {
            due.same("first at " + minutes[i], x.missing(minutes[i], 0), first[i]);
            due.same("second at " + minutes[i], x.missing(minutes[i], 1), second[i]);
        }
        x.check(0, 4, 96);
        due.same("done when it was not there, last minute", x.missing(100, 0), 10);
        due.same("done when it was not there, the minute behind", x.missing(101, 0), 4);
    }

    @Says(in = "Terms", words = "CHECKS 0 .. 4: a station has to do one each PERIOD of minutes")
    static void checksOfEachStationAreTheirOwn(Due due) {
        StationRows x = World.stations(2);
        x.period(0, 4, 1);
        x.period(1, 0, 1);
        x.check(0, 0, 5);
        x.check(1, 4, 5);
        due.same("another check was done, first", x.missing(5, 0), 4);
        due.same("another check was done, second", x.missing(5, 1), 10);
        x.check(0, 4, 5);
        due.same("the first one is done", x.missing(5, 0), 10);
    }
}
