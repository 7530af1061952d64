/** Promises 13 and 14: need, lacks. */
final class NeedTest {
    private static final Due DUE = new Due();

    public static void main(String[] args) {
        greatestNeedCounts();
        hoursComeAgain();
        lacksNeverBelowZero();
        stationThatIsNotThereLacksNone();
        refuses();
        DUE.end();
    }

    private static void greatestNeedCounts() {
        StationRows x = new StationRows();
        x.station(1);
        x.station(1);
        DUE.same("no need told", x.lacks(0, 0), 0);
        x.need(0, 3, 2);
        x.need(0, 3, 60);
        x.need(0, 3, 0);
        DUE.same("greatest", x.lacks(0, 180), 60);
        DUE.same("another station", x.lacks(1, 180), 0);
        x.person(0, 0);
        x.duty(0, 180, 200);
        DUE.same("one is there", x.lacks(0, 199), 59);
        DUE.same("none is there", x.lacks(0, 200), 60);
    }

    private static void hoursComeAgain() {
        StationRows x = new StationRows();
        x.station(1);
        x.need(0, 23, 5);
        x.need(0, 0, 1);
        DUE.same("hour 0", x.lacks(0, 59), 1);
        DUE.same("hour 1", x.lacks(0, 60), 0);
        DUE.same("before hour 23", x.lacks(0, 1379), 0);
        DUE.same("hour 23", x.lacks(0, 1380), 5);
        DUE.same("end of hour 23", x.lacks(0, 1439), 5);
        DUE.same("next day", x.lacks(0, 1440), 1);
        x.need(0, 99999 / 60 % 24, 9);
        DUE.same("last minute", x.lacks(0, 99999), 9);
    }

    private static void lacksNeverBelowZero() {
        StationRows x = new StationRows();
        x.station(1);
        x.need(0, 0, 1);
        x.person(0, 0);
        x.person(0, 50);
        x.duty(0, 0, 10);
        x.duty(1, 0, 10);
        DUE.same("more than needed", x.lacks(0, 0), 0);
        x.need(0, 0, 2);
        DUE.same("just enough", x.lacks(0, 0), 0);
        x.limit(49);
        DUE.same("one is beyond the limit", x.lacks(0, 0), 1);
    }

    private static void stationThatIsNotThereLacksNone() {
        StationRows x = new StationRows();
        x.temporary(1, 10, 20);
        x.need(0, 0, 7);
        DUE.same("before", x.lacks(0, 9), 0);
        DUE.same("first", x.lacks(0, 10), 7);
        DUE.same("last", x.lacks(0, 19), 7);
        DUE.same("behind", x.lacks(0, 20), 0);
    }

    private static void refuses() {
        StationRows x = new StationRows();
        DUE.unknown("need, no station", () -> x.need(0, 0, 0));
        DUE.unknown("lacks, no station", () -> x.lacks(0, 0));
        x.station(1);
        DUE.unknown("need, station -1", () -> x.need(-1, 0, 0));
        DUE.unknown("need, station before hour", () -> x.need(1, 24, 61));
        DUE.outside("need, hour -1", () -> x.need(0, -1, 0));
        DUE.outside("need, hour 24", () -> x.need(0, 24, 0));
        DUE.outside("need, n -1", () -> x.need(0, 0, -1));
        DUE.outside("need, n 61", () -> x.need(0, 0, 61));
        DUE.unknown("lacks, station -1", () -> x.lacks(-1, 0));
        DUE.unknown("lacks, station before minute", () -> x.lacks(1, -1));
        DUE.outside("lacks, minute -1", () -> x.lacks(0, -1));
        DUE.outside("lacks, minute 100000", () -> x.lacks(0, 100000));
        DUE.same("refused needs leave none", x.lacks(0, 0), 0);
    }
}
