/** Promises 15 to 17: period, check, missing. */
final class CheckTest {
    private static final Due DUE = new Due();

    public static void main(String[] args) {
        periodHasItsMinutes();
        longestAndShortestPeriod();
        periodMayChange();
        missingIsOrdered();
        stationThatIsNotThereMissesNone();
        periodRefuses();
        checkRefuses();
        checksEndAtTwoHundred();
        missingRefuses();
        DUE.end();
    }

    private static void periodHasItsMinutes() {
        StationRows x = new StationRows();
        x.station(1);
        x.period(0, 2, 10);
        DUE.same("below the period less 1", x.missing(8, 0), -1);
        DUE.same("the period less 1", x.missing(9, 0), 2);
        x.check(0, 2, 30);
        x.check(0, 2, 20);
        DUE.same("before", x.missing(19, 0), 2);
        DUE.same("done now", x.missing(20, 0), -1);
        DUE.same("still in the period", x.missing(29, 0), -1);
        DUE.same("done again", x.missing(30, 0), -1);
        DUE.same("last of the period", x.missing(39, 0), -1);
        DUE.same("behind the period", x.missing(40, 0), 2);
        x.check(0, 1, 40);
        DUE.same("another check does not count", x.missing(40, 0), 2);
        DUE.same("a later one does not count", x.missing(15, 0), 2);
    }

    private static void longestAndShortestPeriod() {
        StationRows x = new StationRows();
        x.station(1);
        x.period(0, 0, 9999);
        x.period(0, 1, 1);
        x.check(0, 1, 0);
        DUE.same("shortest, done", x.missing(0, 0), -1);
        DUE.same("shortest, a minute later", x.missing(1, 0), 1);
        DUE.same("longest, not yet", x.missing(9997, 0), 1);
        DUE.same("longest", x.missing(9998, 0), 0);
        x.check(0, 0, 0);
        DUE.same("longest, done at first", x.missing(9998, 0), 1);
        DUE.same("longest, a minute later", x.missing(9999, 0), 0);
        x.check(0, 0, 99999);
        x.check(0, 1, 99999);
        DUE.same("last minute", x.missing(99999, 0), -1);
    }

    private static void periodMayChange() {
        StationRows x = new StationRows();
        x.station(1);
        DUE.same("no period", x.missing(50, 0), -1);
        x.check(0, 3, 45);
        x.period(0, 3, 5);
        DUE.same("done too early", x.missing(50, 0), 3);
        x.period(0, 3, 6);
        DUE.same("a longer period", x.missing(50, 0), -1);
        x.period(0, 3, 2);
        DUE.same("a shorter period", x.missing(50, 0), 3);
        x.period(0, 3, 0);
        DUE.same("none any more", x.missing(50, 0), -1);
    }

    private static void missingIsOrdered() {
        StationRows x = new StationRows();
        for (int s = 0; s < 12; s++) {
            x.station(1);
        }
        for (int s = 11; s >= 0; s--) {
            for (int c = 4; c >= 0; c--) {
                x.period(s, c, 5);
            }
        }
        for (int i = 0; i < 60; i++) {
            DUE.same("missing(4, " + i + ")", x.missing(4, i), 10 * (i / 5) + i % 5);
        }
        DUE.same("behind the last", x.missing(4, 60), -1);
        DUE.same("far behind the last", x.missing(4, Integer.MAX_VALUE), -1);
        x.check(5, 2, 4);
        DUE.same("the one before", x.missing(4, 26), 51);
        DUE.same("one is left out", x.missing(4, 27), 53);
        DUE.same("one less", x.missing(4, 59), -1);
    }

    private static void stationThatIsNotThereMissesNone() {
        StationRows x = new StationRows();
        x.temporary(1, 10, 20);
        x.station(1);
        x.period(0, 0, 3);
        x.period(1, 4, 3);
        DUE.same("before", x.missing(9, 0), 14);
        DUE.same("first", x.missing(10, 0), 0);
        DUE.same("first, the other", x.missing(10, 1), 14);
        DUE.same("last", x.missing(19, 0), 0);
        DUE.same("behind", x.missing(20, 0), 14);
        x.check(0, 0, 9);
        DUE.same("done when it was not there", x.missing(10, 0), 14);
    }

    private static void periodRefuses() {
        StationRows x = new StationRows();
        DUE.unknown("no station", () -> x.period(0, 0, 1));
        x.station(1);
        DUE.unknown("station -1", () -> x.period(-1, 0, 1));
        DUE.unknown("station 1", () -> x.period(1, 0, 1));
        DUE.unknown("check -1", () -> x.period(0, -1, 1));
        DUE.unknown("check 5", () -> x.period(0, 5, 1));
        DUE.unknown("check before minutes", () -> x.period(0, 5, -1));
        DUE.outside("minutes -1", () -> x.period(0, 0, -1));
        DUE.outside("minutes 10000", () -> x.period(0, 0, 10000));
        DUE.same("refused ones leave none", x.missing(99999, 0), -1);
    }

    private static void checkRefuses() {
        StationRows x = new StationRows();
        DUE.unknown("no station", () -> x.check(0, 0, 1));
        x.station(1);
        x.period(0, 0, 1);
        DUE.unknown("station -1", () -> x.check(-1, 0, 1));
        DUE.unknown("station 1", () -> x.check(1, 0, 1));
        DUE.unknown("check -1", () -> x.check(0, -1, 1));
        DUE.unknown("check 5", () -> x.check(0, 5, 1));
        DUE.unknown("check before minute", () -> x.check(0, 5, -1));
        DUE.outside("minute -1", () -> x.check(0, 0, -1));
        DUE.outside("minute 100000", () -> x.check(0, 0, 100000));
        DUE.same("refused ones are not done", x.missing(1, 0), 0);
    }

    private static void checksEndAtTwoHundred() {
        StationRows x = new StationRows();
        x.station(1);
        x.station(1);
        x.period(0, 0, 1);
        for (int i = 0; i < 200; i++) {
            x.check(i % 2, i % 5, i < 100 ? 7 : i);
        }
        DUE.noRoom("a 201st", () -> x.check(0, 0, 500));
        DUE.noRoom("a 201st at the other station", () -> x.check(1, 4, 500));
        DUE.unknown("check before room", () -> x.check(0, 5, 500));
        DUE.outside("minute before room", () -> x.check(0, 0, 100000));
        DUE.same("the 201st was not done", x.missing(500, 0), 0);
        DUE.same("the earlier ones were", x.missing(190, 0), -1);
    }

    private static void missingRefuses() {
        StationRows x = new StationRows();
        DUE.outside("minute -1", () -> x.missing(-1, 0));
        DUE.outside("minute 100000", () -> x.missing(100000, 0));
        DUE.outside("i -1", () -> x.missing(0, -1));
        DUE.outside("i least", () -> x.missing(0, Integer.MIN_VALUE));
        DUE.same("nothing", x.missing(99999, 0), -1);
    }
}
