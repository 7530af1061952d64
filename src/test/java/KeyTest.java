/** Promises 18 to 20: key, holder, twice. */
final class KeyTest {
    private static final Due DUE = new Due();

    public static void main(String[] args) {
        keysAreAtStations();
        holdersAreOrdered();
        twiceCountsKeys();
        refuses();
        DUE.end();
    }

    private static void keysAreAtStations() {
        StationRows x = new StationRows();
        x.station(1);
        x.station(1);
        DUE.wrongState("not there yet", () -> x.key(0, 0, false));
        x.key(0, 0, true);
        DUE.wrongState("there already", () -> x.key(0, 0, true));
        DUE.same("holder", x.holder(0, 0), 0);
        DUE.same("no second holder", x.holder(0, 1), -1);
        x.key(1, 0, true);
        x.key(0, 0, false);
        DUE.wrongState("not any more", () -> x.key(0, 0, false));
        DUE.same("the other one is left", x.holder(0, 0), 1);
        x.key(0, 0, true);
        DUE.same("again", x.holder(0, 0), 0);
    }

    private static void holdersAreOrdered() {
        StationRows x = new StationRows();
        for (int s = 0; s < 12; s++) {
            x.station(1);
        }
        int[] order = {11, 3, 0, 7};
        for (int s : order) {
            x.key(s, 99, true);
        }
        int[] due = {0, 3, 7, 11, -1};
        for (int i = 0; i < due.length; i++) {
            DUE.same("holder(99, " + i + ")", x.holder(99, i), due[i]);
        }
        DUE.same("another key", x.holder(98, 0), -1);
        DUE.same("far behind the last", x.holder(99, Integer.MAX_VALUE), -1);
    }

    private static void twiceCountsKeys() {
        StationRows x = new StationRows();
        x.station(1);
        x.temporary(1, 5, 6);
        x.station(1);
        x.key(0, 0, true);
        DUE.same("one station", x.twice(), 0);
        x.key(1, 0, true);
        DUE.same("two stations", x.twice(), 1);
        x.key(2, 0, true);
        DUE.same("three stations", x.twice(), 1);
        x.key(0, 99, true);
        x.key(2, 99, true);
        DUE.same("two keys", x.twice(), 2);
        x.key(0, 0, false);
        DUE.same("two stations are left", x.twice(), 2);
        x.key(2, 0, false);
        DUE.same("one station is left", x.twice(), 1);
    }

    private static void refuses() {
        StationRows x = new StationRows();
        DUE.unknown("no station", () -> x.key(0, 0, true));
        x.station(1);
        DUE.unknown("station -1", () -> x.key(-1, 0, true));
        DUE.unknown("station 1", () -> x.key(1, 0, true));
        DUE.unknown("station before key", () -> x.key(1, 100, true));
        DUE.outside("key -1", () -> x.key(0, -1, true));
        DUE.outside("key 100", () -> x.key(0, 100, true));
        DUE.outside("key before state", () -> x.key(0, 100, false));
        DUE.outside("holder, key -1", () -> x.holder(-1, 0));
        DUE.outside("holder, key 100", () -> x.holder(100, 0));
        DUE.outside("holder, i -1", () -> x.holder(0, -1));
        DUE.same("refused ones leave none", x.holder(0, 0), -1);
    }
}
