/** Objects with something in them already, for tests that look at one boundary alone. */
final class World {
    private World() {
    }

    static StationRows stations(int count) {
        StationRows x = new StationRows();
        for (int s = 0; s < count; s++) {
            x.station(6);
        }
        return x;
    }

    /** All at the stations 0, 1, .. of six doors each, of kind 0 and with a crew of 1. */
    static StationRows vehicles(int count) {
        StationRows x = stations(6);
        for (int v = 0; v < count; v++) {
            x.vehicle(v / 6, 0, 1);
        }
        return x;
    }

    /** All at home at station 0 of two, at distance 0 and without a duty. */
    static StationRows persons(int count) {
        StationRows x = stations(2);
        for (int p = 0; p < count; p++) {
            x.person(0, 0);
        }
        return x;
    }

    /** Persons of one station more, on duty at 0 .. 999, the first of them with this number. */
    static void crew(StationRows x, int station, int first, int... distances) {
        for (int i = 0; i < distances.length; i++) {
            x.person(station, distances[i]);
            x.duty(first + i, 0, 1000);
        }
    }

    /** Done checks of check 0 of station 0, all at minute 0. */
    static void checks(StationRows x, int count) {
        for (int i = 0; i < count; i++) {
            x.check(0, 0, 0);
        }
    }
}
