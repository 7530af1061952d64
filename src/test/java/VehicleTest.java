/** Promises 4 and 5: vehicle, out. */
final class VehicleTest {
    private static final Due DUE = new Due();

    public static void main(String[] args) {
        vehiclesAreNumbered();
        vehicleRefuses();
        doorsAndRoomEnd();
        outHasItsTimes();
        outRefuses();
        outEndsAtFour();
        DUE.end();
    }

    private static void vehiclesAreNumbered() {
        StationRows x = new StationRows();
        x.station(2);
        x.station(1);
        DUE.same("first", x.vehicle(0, 0, 1), 0);
        DUE.same("at another station", x.vehicle(1, 9, 9), 1);
        DUE.same("spare", x.vehicle(0, 9, 0), 2);
    }

    private static void vehicleRefuses() {
        StationRows x = new StationRows();
        DUE.unknown("no station at all", () -> x.vehicle(0, 0, 1));
        x.station(1);
        DUE.unknown("station 1", () -> x.vehicle(1, 0, 1));
        DUE.unknown("station -1", () -> x.vehicle(-1, 0, 1));
        DUE.unknown("station before kind", () -> x.vehicle(1, 10, 10));
        DUE.outside("kind -1", () -> x.vehicle(0, -1, 1));
        DUE.outside("kind 10", () -> x.vehicle(0, 10, 1));
        DUE.outside("crew -1", () -> x.vehicle(0, 0, -1));
        DUE.outside("crew 10", () -> x.vehicle(0, 0, 10));
        DUE.same("refused ones leave no vehicle", x.vehicle(0, 0, 1), 0);
        DUE.outside("kind before doors", () -> x.vehicle(0, 10, 1));
        DUE.outside("crew before doors", () -> x.vehicle(0, 0, 10));
        DUE.noRoom("no door left", () -> x.vehicle(0, 0, 1));
        DUE.noRoom("no door left for a spare one", () -> x.vehicle(0, 0, 0));
    }

    private static void doorsAndRoomEnd() {
        StationRows x = new StationRows();
        for (int s = 0; s < 6; s++) {
            x.station(6);
        }
        for (int v = 0; v < 30; v++) {
            DUE.same("vehicle " + v, x.vehicle(v / 6, 0, v % 10), v);
        }
        DUE.noRoom("a 31st with a door left", () -> x.vehicle(5, 0, 1));
        DUE.unknown("station before room", () -> x.vehicle(6, 0, 1));
        DUE.outside("crew before room", () -> x.vehicle(5, 0, 10));
        DUE.unknown("no 31st was kept", () -> x.vehicleAt(30, 0, 6));
        x.out(29, 99998, 99999);
        DUE.same("the last one is out", x.vehicleAt(29, 99998, 6), 1);
    }

    private static void outHasItsTimes() {
        StationRows x = new StationRows();
        x.station(2);
        x.vehicle(0, 0, 1);
        x.vehicle(0, 0, 1);
        x.out(0, 10, 20);
        x.out(0, 20, 21);
        DUE.same("before", x.vehicleAt(0, 9, 6), 0);
        DUE.same("first", x.vehicleAt(0, 10, 6), 1);
        DUE.same("last", x.vehicleAt(0, 19, 6), 1);
        DUE.same("next time", x.vehicleAt(0, 20, 6), 1);
        DUE.same("behind", x.vehicleAt(0, 21, 6), 0);
        DUE.same("another vehicle", x.vehicleAt(1, 10, 6), 0);
        x.out(1, 0, 99999);
        DUE.same("the last minute is in no time", x.vehicleAt(1, 99999, 6), 0);
    }

    private static void outRefuses() {
        StationRows x = new StationRows();
        x.station(2);
        DUE.unknown("no vehicle at all", () -> x.out(0, 1, 2));
        x.vehicle(0, 0, 1);
        DUE.unknown("vehicle 1", () -> x.out(1, 1, 2));
        DUE.unknown("vehicle -1", () -> x.out(-1, 1, 2));
        DUE.unknown("vehicle before times", () -> x.out(1, 2, 2));
        DUE.outside("from -1", () -> x.out(0, -1, 2));
        DUE.outside("to 100000", () -> x.out(0, 1, 100000));
        DUE.outside("no minute", () -> x.out(0, 2, 2));
        DUE.outside("backwards", () -> x.out(0, 3, 2));
        x.out(0, 10, 20);
        DUE.wrongState("the same", () -> x.out(0, 10, 20));
        DUE.wrongState("within", () -> x.out(0, 12, 13));
        DUE.wrongState("round it", () -> x.out(0, 5, 25));
        DUE.wrongState("its first minute", () -> x.out(0, 5, 11));
        DUE.wrongState("its last minute", () -> x.out(0, 19, 25));
        DUE.same("refused ones leave no time", x.vehicleAt(0, 24, 6), 0);
        x.out(0, 9, 10);
        x.out(0, 20, 21);
    }

    private static void outEndsAtFour() {
        StationRows x = new StationRows();
        x.station(2);
        x.vehicle(0, 0, 1);
        x.vehicle(0, 0, 1);
        for (int i = 0; i < 4; i++) {
            x.out(0, 10 * i, 10 * i + 5);
        }
        DUE.noRoom("a fifth", () -> x.out(0, 50, 55));
        DUE.wrongState("state before room", () -> x.out(0, 34, 55));
        DUE.outside("times before room", () -> x.out(0, 55, 50));
        DUE.same("the fifth was not kept", x.vehicleAt(0, 50, 6), 0);
        x.out(1, 0, 5);
        DUE.same("another vehicle has its own four", x.vehicleAt(1, 0, 6), 1);
    }
}
