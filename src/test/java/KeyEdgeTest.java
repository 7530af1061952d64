/** The boundaries of promises 18 to 20: key, holder, twice. */
final class KeyEdgeTest {
    public static void main(String[] args) {
        Due.runAll(KeyEdgeTest.class);
    }

    @Says(in = "Promise 18", words = "IllegalArgumentException: no such station")
    static void keyStations(Due due) {
        for (int count : new int[] {0, 1, 2, 12}) {
            due.numbers("key, station of " + count, count, s -> World.stations(count).key(s, 0, true));
        }
    }

    @Says(in = "Promise 18", words = "IndexOutOfBoundsException: no such key")
    static void keyNumbers(Due due) {
        StationRows x = World.stations(1);
        due.range("key on", 0, 99, key -> x.key(0, key, true));
        due.range("key off", 0, 99, key -> x.key(0, key, false));
    }

    @Says(in = "Promise 18", words = "IllegalStateException: it is so.")
    static void keyThatIsSo(Due due) {
        for (int key : new int[] {0, 99}) {
            for (int station : new int[] {0, 11}) {
                StationRows x = World.stations(12);
                due.wrongState("off at first", () -> x.key(station, key, false));
                due.taken("on", () -> x.key(station, key, true));
                due.wrongState("on again", () -> x.key(station, key, true));
                due.same("still there", x.holder(key, 0), station);
                due.taken("off", () -> x.key(station, key, false));
                due.wrongState("off again", () -> x.key(station, key, false));
                due.same("not there", x.holder(key, 0), -1);
                due.taken("on once more", () -> x.key(station, key, true));
            }
        }
    }

    @Says(in = "Promise 18", words = "A key is at a station, or not any more.")
    static void keysOfEachStationAreTheirOwn(Due due) {
        StationRows x = World.stations(2);
        x.key(0, 5, true);
        due.wrongState("not at the other station", () -> x.key(1, 5, false));
        due.wrongState("not the key before", () -> x.key(0, 4, false));
        due.wrongState("not the key behind", () -> x.key(0, 6, false));
        due.taken("at the other station too", () -> x.key(1, 5, true));
        due.taken("not at the first any more", () -> x.key(0, 5, false));
        due.same("at the other one still", x.holder(5, 0), 1);
    }

    @Says(in = "Promise 18", words = "IndexOutOfBoundsException: no such key")
    static void refusedKeyChangesNothing(Due due) {
        StationRows x = World.stations(2);
        x.key(0, 0, true);
        x.key(1, 99, true);
        due.outside("key -1", () -> x.key(0, -1, true));
        due.outside("key 100", () -> x.key(1, 100, true));
        due.unknown("station 2", () -> x.key(2, 0, true));
        due.unknown("station -1", () -> x.key(-1, 99, true));
        due.wrongState("on again", () -> x.key(0, 0, true));
        due.wrongState("off", () -> x.key(1, 0, false));
        due.same("holder of 0", x.holder(0, 0), 0);
        due.same("no other one", x.holder(0, 1), -1);
        due.same("holder of 99", x.holder(99, 0), 1);
        due.same("no other one of 99", x.holder(99, 1), -1);
        due.same("none twice", x.twice(), 0);
    }

    @Says(in = "Promise 19", words = "IndexOutOfBoundsException: no such key, or i below 0.")
    static void holderKeys(Due due) {
        StationRows x = World.stations(1);
        due.range("holder, key", 0, 99, key -> x.holder(key, 0));
    }

    @Says(in = "Promise 19", words = "IndexOutOfBoundsException: no such key, or i below 0.")
    static void holderPlaces(Due due) {
        StationRows x = World.stations(1);
        x.key(0, 0, true);
        due.outside("i -1", () -> x.holder(0, -1));
        due.outside("i -1 of a key that is nowhere", () -> x.holder(1, -1));
        due.outside("i least", () -> x.holder(0, Integer.MIN_VALUE));
        due.same("i 0", x.holder(0, 0), 0);
        due.same("i 1", x.holder(0, 1), -1);
        due.same("i greatest", x.holder(0, Integer.MAX_VALUE), -1);
    }

    @Says(in = "Promise 19", words = "-1 when there are not so many")
    static void holdersOfNoneToTwelve(Due due) {
        StationRows x = World.stations(12);
        for (int count = 0; count <= 12; count++) {
            due.same("of " + count + ", behind the last", x.holder(99, count), -1);
            if (count > 0) {
                due.same("of " + count + ", the first", x.holder(99, 0), 12 - count);
                due.same("of " + count + ", the last", x.holder(99, count - 1), 11);
            }
            if (count < 12) {
                x.key(11 - count, 99, true);
            }
        }
        for (int i = 0; i < 12; i++) {
            due.same("holder(99, " + i + ")", x.holder(99, i), i);
        }
        due.same("the 13th", x.holder(99, 12), -1);
    }

    @Says(in = "Terms", words = "KEYS 0 .. 99 are at stations (any number of them).")
    static void keyAtAStationThatIsNotThere(Due due) {
        StationRows x = new StationRows();
        x.temporary(1, 5, 6);
        x.temporary(1, 99998, 99999);
        due.taken("at a temporary one", () -> x.key(0, 0, true));
        due.taken("at another temporary one", () -> x.key(1, 0, true));
        due.same("the first", x.holder(0, 0), 0);
        due.same("the second", x.holder(0, 1), 1);
        due.same("twice", x.twice(), 1);
    }

    @Says(in = "Promise 20", words = "How many keys are at two stations or more.")
    static void oneTwoAndTwelveStations(Due due) {
        StationRows x = World.stations(12);
        due.same("at none", x.twice(), 0);
        for (int s = 0; s < 12; s++) {
            x.key(s, 42, true);
            due.same("at " + (s + 1), x.twice(), s > 0 ? 1 : 0);
        }
        for (int s = 0; s < 12; s++) {
            x.key(s, 42, false);
            due.same("at " + (11 - s), x.twice(), s < 10 ? 1 : 0);
        }
    }

    @Says(in = "Promise 20", words = "How many keys are at two stations or more.")
    static void allHundredKeys(Due due) {
        StationRows x = World.stations(12);
        for (int key = 0; key < 100; key++) {
            x.key(0, key, true);
        }
        due.same("all at one station", x.twice(), 0);
        for (int key = 99; key >= 0; key--) {
            x.key(11, key, true);
            due.same("from key " + key + " on", x.twice(), 100 - key);
        }
    }
}
