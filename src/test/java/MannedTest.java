/** Promise 12: vehicleAt, with what Terms say of manned, on call, delay and spare. */
final class MannedTest {
    private static final Due DUE = new Due();

    public static void main(String[] args) {
        vehiclesTakeInOrder();
        vehicleWithoutEnoughTakesNone();
        lowestPersonIsByNumber();
        spareStandsForTheLowest();
        spareHasToFit();
        spareTakesTheCrewOfTheOther();
        spareOfAStationThatIsNotThere();
        vehicleOfAStationThatIsNotThere();
        vehicleAtRefuses();
        DUE.end();
    }

    private static void all(StationRows x, int vehicle, int t, int... due) {
        for (int what = 0; what < 7; what++) {
            DUE.same("vehicleAt(" + vehicle + ", " + t + ", " + what + ")", x.vehicleAt(vehicle, t, what), due[what]);
        }
    }

    private static void persons(StationRows x, int station, int first, int... distances) {
        for (int i = 0; i < distances.length; i++) {
            x.person(station, distances[i]);
            x.duty(first + i, 0, 1000);
        }
    }

    private static void vehiclesTakeInOrder() {
        StationRows x = new StationRows();
        x.station(3);
        x.station(1);
        x.vehicle(0, 0, 2);
        x.vehicle(1, 0, 1);
        x.vehicle(0, 0, 2);
        x.vehicle(0, 0, 1);
        persons(x, 0, 0, 7, 0, 0, 0, 9);
        persons(x, 1, 5, 4);
        all(x, 0, 0, 2, 0, 2, 1, -1, -1, 0);
        all(x, 1, 0, 1, 4, 1, 5, -1, -1, 0);
        all(x, 2, 0, 1, 7, 2, 0, -1, -1, 0);
        all(x, 3, 0, 1, 9, 1, 4, -1, -1, 0);
        all(x, 3, 1000, 0, 0, 0, -1, -1, -1, 0);
    }

    private static void vehicleWithoutEnoughTakesNone() {
        StationRows x = new StationRows();
        x.station(4);
        x.vehicle(0, 0, 2);
        x.vehicle(0, 0, 3);
        x.vehicle(0, 0, 1);
        x.vehicle(0, 0, 1);
        persons(x, 0, 0, 0, 0, 0, 6);
        all(x, 0, 0, 2, 0, 2, 0, -1, -1, 0);
        all(x, 1, 0, 0, 0, 0, -1, -1, -1, 0);
        all(x, 2, 0, 2, 0, 1, 2, -1, -1, 0);
        all(x, 3, 0, 1, 6, 1, 3, -1, -1, 0);
        x.out(0, 5, 6);
        all(x, 0, 5, 0, 0, 0, -1, -1, -1, 1);
        all(x, 1, 5, 2, 0, 3, 0, -1, -1, 0);
        x.limit(0);
        all(x, 3, 0, 0, 0, 0, -1, -1, -1, 0);
    }

    private static void lowestPersonIsByNumber() {
        StationRows x = new StationRows();
        x.station(1);
        x.vehicle(0, 0, 3);
        persons(x, 0, 0, 50, 3, 2, 1);
        all(x, 0, 0, 1, 3, 3, 1, -1, -1, 0);
    }

    private static void spareStandsForTheLowest() {
        StationRows x = new StationRows();
        x.station(6);
        x.vehicle(0, 1, 0);
        x.vehicle(0, 1, 2);
        x.vehicle(0, 1, 1);
        x.vehicle(0, 1, 0);
        x.out(2, 0, 30);
        x.out(1, 10, 20);
        all(x, 2, 5, 0, 0, 0, -1, -1, 0, 1);
        all(x, 0, 5, 0, 0, 0, -1, 2, -1, 0);
        all(x, 3, 5, 0, 0, 0, -1, -1, -1, 0);
        all(x, 1, 10, 0, 0, 0, -1, -1, 0, 1);
        all(x, 2, 10, 0, 0, 0, -1, -1, 3, 1);
        all(x, 3, 10, 0, 0, 0, -1, 2, -1, 0);
        x.out(0, 15, 40);
        all(x, 1, 15, 0, 0, 0, -1, -1, 3, 1);
        all(x, 2, 15, 0, 0, 0, -1, -1, -1, 1);
        all(x, 0, 15, 0, 0, 0, -1, -1, -1, 1);
        all(x, 0, 35, 0, 0, 0, -1, -1, -1, 1);
        all(x, 3, 35, 0, 0, 0, -1, -1, -1, 0);
    }

    private static void spareHasToFit() {
        StationRows x = new StationRows();
        x.station(6);
        x.vehicle(0, 1, 1);
        x.vehicle(0, 2, 0);
        x.vehicle(0, 1, 1);
        x.out(0, 0, 10);
        all(x, 0, 0, 0, 0, 0, -1, -1, -1, 1);
        all(x, 1, 0, 0, 0, 0, -1, -1, -1, 0);
        x.vehicle(0, 1, 0);
        all(x, 0, 0, 0, 0, 0, -1, -1, 3, 1);
    }

    private static void spareTakesTheCrewOfTheOther() {
        StationRows x = new StationRows();
        x.station(2);
        x.station(3);
        x.vehicle(1, 4, 0);
        x.vehicle(0, 4, 2);
        x.vehicle(1, 5, 1);
        persons(x, 0, 0, 0, 0);
        persons(x, 1, 2, 8, 0, 9);
        all(x, 0, 0, 0, 0, 0, -1, -1, -1, 0);
        all(x, 2, 0, 2, 0, 1, 3, -1, -1, 0);
        x.out(1, 100, 200);
        all(x, 0, 100, 1, 8, 2, 2, 1, -1, 0);
        all(x, 1, 100, 0, 0, 0, -1, -1, 0, 1);
        all(x, 2, 100, 1, 9, 1, 4, -1, -1, 0);
        all(x, 1, 200, 2, 0, 2, 0, -1, -1, 0);
    }

    private static void spareOfAStationThatIsNotThere() {
        StationRows x = new StationRows();
        x.temporary(1, 10, 20);
        x.station(2);
        x.vehicle(0, 0, 0);
        x.vehicle(1, 0, 1);
        x.vehicle(1, 0, 0);
        x.out(1, 0, 100);
        DUE.same("not there yet", x.vehicleAt(1, 9, 5), 2);
        DUE.same("there", x.vehicleAt(1, 10, 5), 0);
        DUE.same("not there any more", x.vehicleAt(1, 20, 5), 2);
    }

    /** The document asks of the spare one alone that its station is there. */
    private static void vehicleOfAStationThatIsNotThere() {
        StationRows x = new StationRows();
        x.temporary(1, 10, 20);
        x.station(1);
        x.vehicle(0, 0, 1);
        x.vehicle(1, 0, 0);
        persons(x, 0, 0, 0);
        persons(x, 1, 1, 3);
        all(x, 0, 9, 0, 0, 0, -1, -1, -1, 0);
        all(x, 0, 10, 2, 0, 1, 0, -1, -1, 0);
        x.out(0, 30, 40);
        all(x, 0, 30, 0, 0, 0, -1, -1, 1, 1);
        all(x, 1, 30, 1, 3, 1, 1, 0, -1, 0);
    }

    private static void vehicleAtRefuses() {
        StationRows x = new StationRows();
        x.station(1);
        DUE.unknown("no vehicle", () -> x.vehicleAt(0, 0, 0));
        x.vehicle(0, 0, 1);
        DUE.unknown("vehicle -1", () -> x.vehicleAt(-1, 0, 0));
        DUE.unknown("what -1", () -> x.vehicleAt(0, 0, -1));
        DUE.unknown("what 7", () -> x.vehicleAt(0, 0, 7));
        DUE.unknown("what before minute", () -> x.vehicleAt(0, -1, 7));
        for (int what = 0; what < 7; what++) {
            int asked = what;
            DUE.outside("minute -1", () -> x.vehicleAt(0, -1, asked));
            DUE.outside("minute 100000", () -> x.vehicleAt(0, 100000, asked));
        }
        all(x, 0, 99999, 0, 0, 0, -1, -1, -1, 0);
    }
}
