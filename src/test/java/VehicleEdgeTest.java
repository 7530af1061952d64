/** The boundaries of promises 4 and 5: vehicle, out. */
final class VehicleEdgeTest {
    public static void main(String[] args) {
        Due.runAll(VehicleEdgeTest.class);
    }

    @Says(in = "Promise 4", words = "IllegalArgumentException: no such station")
    static void vehicleStations(Due due) {
        for (int count : new int[] {0, 1, 2, 12}) {
            due.numbers("vehicle, station of " + count, count, s -> World.stations(count).vehicle(s, 0, 1));
        }
    }

    @Says(in = "Promise 4", words = "IndexOutOfBoundsException: kind")
    static void vehicleKinds(Due due) {
        due.range("vehicle, kind", 0, 9, kind -> World.stations(1).vehicle(0, kind, 1));
    }

    @Says(in = "Promise 4", words = "crew (0 .. 9)")
    static void vehicleCrews(Due due) {
        due.range("vehicle, crew", 0, 9, crew -> World.stations(1).vehicle(0, 0, crew));
    }

    @Says(in = "Promise 4", words = "(crew 0: a spare one)")
    static void crewOfNoneIsASpareOne(Due due) {
        StationRows x = World.stations(1);
        x.vehicle(0, 0, 0);
        x.vehicle(0, 0, 1);
        x.out(1, 10, 20);
        due.same("crew 0 stands for another one", x.vehicleAt(0, 10, 4), 1);
        x.out(0, 30, 40);
        due.same("crew 1 stands for none", x.vehicleAt(1, 30, 4), -1);
        due.same("none stands for crew 0", x.vehicleAt(0, 30, 5), -1);
    }

    @Says(in = "Promise 4", words = "One more vehicle")
    static void vehiclesAreNumberedFromNull(Due due) {
        StationRows x = World.stations(6);
        for (int v = 0; v < 30; v++) {
            due.same("vehicle " + v, x.vehicle(v % 6, v % 10, v % 10), v);
            int next = v + 1;
            due.same("known from now on", x.vehicleAt(v, 0, 6), 0);
            due.unknown("vehicle " + next + " is not known yet", () -> x.vehicleAt(next, 0, 6));
        }
    }

    @Says(in = "Promise 4", words = "UnsupportedOperationException: there are 30")
    static void vehiclesJustFull(Due due) {
        StationRows x = World.vehicles(29);
        due.same("the 30th", x.vehicle(4, 9, 9), 29);
        due.noRoom("a 31st with doors left", () -> x.vehicle(5, 0, 1));
        due.noRoom("a 31st, spare, with doors left", () -> x.vehicle(5, 0, 0));
        due.noRoom("a 31st without a door left", () -> x.vehicle(0, 0, 1));
        due.unknown("no 31st was kept: out", () -> x.out(30, 0, 1));
        due.unknown("no 31st was kept: vehicleAt", () -> x.vehicleAt(30, 0, 0));
        due.same("the 30th is known", x.vehicleAt(29, 0, 6), 0);
    }

    @Says(in = "Terms", words = "VEHICLES 0, 1, .. (at most 30)")
    static void spareOnesCountAmongTheThirty(Due due) {
        StationRows x = World.stations(6);
        for (int v = 0; v < 30; v++) {
            due.same("spare " + v, x.vehicle(v / 6, 0, 0), v);
        }
        due.noRoom("a 31st", () -> x.vehicle(5, 0, 1));
    }

    @Says(in = "Promise 4", words = "or the station has no door left")
    static void spareOnesNeedADoor(Due due) {
        StationRows x = new StationRows();
        x.station(2);
        due.same("spare", x.vehicle(0, 0, 0), 0);
        due.same("with a crew", x.vehicle(0, 0, 1), 1);
        due.noRoom("a third spare one", () -> x.vehicle(0, 0, 0));
        due.noRoom("a third with a crew", () -> x.vehicle(0, 0, 1));
    }

    @Says(in = "Promise 4", words = "or the station has no door left")
    static void vehicleThatIsOutKeepsItsDoor(Due due) {
        StationRows x = new StationRows();
        x.station(1);
        x.vehicle(0, 0, 1);
        x.out(0, 0, 99999);
        due.noRoom("behind the door of one that is out", () -> x.vehicle(0, 0, 1));
    }

    @Says(in = "Promise 4", words = "or the station has no door left")
    static void refusedVehicleTakesNoDoorAndNoNumber(Due due) {
        StationRows x = new StationRows();
        x.station(1);
        x.station(1);
        due.outside("kind 10", () -> x.vehicle(0, 10, 1));
        due.outside("kind -1", () -> x.vehicle(0, -1, 1));
        due.outside("crew 10", () -> x.vehicle(0, 0, 10));
        due.outside("crew -1", () -> x.vehicle(0, 0, -1));
        due.unknown("vehicle 0 is not known", () -> x.vehicleAt(0, 0, 6));
        due.same("the door is left", x.vehicle(0, 0, 1), 0);
        due.noRoom("no door left", () -> x.vehicle(0, 0, 1));
        due.same("the next number", x.vehicle(1, 0, 1), 1);
    }

    @Says(in = "Promise 5", words = "IllegalArgumentException: no such vehicle")
    static void outVehicles(Due due) {
        for (int count : new int[] {0, 1, 2, 30}) {
            due.numbers("out, vehicle of " + count, count, v -> World.vehicles(count).out(v, 0, 1));
        }
    }

    @Says(in = "Promise 5", words = "IndexOutOfBoundsException: times")
    static void outTimes(Due due) {
        due.times("out", (from, to) -> World.vehicles(1).out(0, from, to));
    }

    @Says(in = "Promise 5", words = "IllegalStateException: it is out at some minute of it")
    static void outTimesThatMeet(Due due) {
        int[][] meeting = {
            {100, 200}, {100, 101}, {199, 200}, {150, 151}, {101, 199}, {99, 101}, {99, 200}, {99, 201}, {100, 201},
            {199, 201}, {0, 101}, {199, 99999}, {0, 99999}};
        for (int[] time : meeting) {
            StationRows x = World.vehicles(1);
            x.out(0, 100, 200);
            due.wrongState("out " + time[0] + " .. " + time[1], () -> x.out(0, time[0], time[1]));
            due.same("the minute before is free", x.vehicleAt(0, 99, 6), 0);
            due.same("the minute behind is free", x.vehicleAt(0, 200, 6), 0);
            due.same("the first one holds", x.vehicleAt(0, 100, 6), 1);
        }
    }

    @Says(in = "Promise 5", words = "IllegalStateException: it is out at some minute of it")
    static void outTimesThatTouch(Due due) {
        int[][] touching = {{99, 100}, {0, 100}, {0, 99}, {200, 201}, {200, 99999}, {201, 99999}};
        for (int[] time : touching) {
            StationRows x = World.vehicles(1);
            x.out(0, 100, 200);
            due.taken("out " + time[0] + " .. " + time[1], () -> x.out(0, time[0], time[1]));
            due.same("its first minute", x.vehicleAt(0, time[0], 6), 1);
            due.same("its last minute", x.vehicleAt(0, time[1] - 1, 6), 1);
        }
    }

    @Says(in = "Promise 5", words = "IllegalStateException: it is out at some minute of it")
    static void outMeetsAnyOfItsTimes(Due due) {
        StationRows x = World.vehicles(1);
        x.out(0, 30, 40);
        x.out(0, 10, 20);
        x.out(0, 50, 60);
        for (int first : new int[] {10, 30, 50}) {
            due.wrongState("its first minute", () -> x.out(0, first - 1, first + 1));
            due.wrongState("its last minute", () -> x.out(0, first + 9, first + 10));
        }
        due.wrongState("round two of them", () -> x.out(0, 20, 51));
        due.taken("the minutes between two", () -> x.out(0, 20, 30));
        due.noRoom("that was the fourth", () -> x.out(0, 40, 50));
    }

    @Says(in = "Promise 5", words = "UnsupportedOperationException: there are 4.")
    static void outsJustFull(Due due) {
        StationRows x = World.vehicles(2);
        for (int i = 0; i < 4; i++) {
            int from = 10 * i;
            due.taken("out " + i, () -> x.out(0, from, from + 5));
        }
        due.noRoom("a fifth", () -> x.out(0, 50, 55));
        due.noRoom("a fifth between two", () -> x.out(0, 5, 10));
        due.same("no fifth was kept", x.vehicleAt(0, 50, 6), 0);
        due.same("the fourth holds", x.vehicleAt(0, 34, 6), 1);
        for (int i = 0; i < 4; i++) {
            int from = 10 * i;
            due.taken("out " + i + " of another vehicle", () -> x.out(1, from, from + 5));
        }
        due.noRoom("a fifth of the other vehicle", () -> x.out(1, 50, 55));
    }

    @Says(in = "Promise 5", words = "UnsupportedOperationException: there are 4.")
    static void refusedOutTakesNoRoom(Due due) {
        StationRows x = World.vehicles(1);
        for (int i = 0; i < 4; i++) {
            int from = 10 * i;
            due.outside("no minute", () -> x.out(0, from, from));
            due.outside("to 100000", () -> x.out(0, from, 100000));
            due.taken("out " + i, () -> x.out(0, from, from + 5));
            due.wrongState("the same once more", () -> x.out(0, from, from + 5));
        }
        due.noRoom("a fifth", () -> x.out(0, 50, 55));
    }

    @Says(in = "Terms", words = "A vehicle is OUT for times (at most 4, none within another one).")
    static void spareOneMayBeOut(Due due) {
        StationRows x = World.stations(1);
        x.vehicle(0, 0, 0);
        x.out(0, 10, 11);
        due.same("the minute before", x.vehicleAt(0, 9, 6), 0);
        due.same("its minute", x.vehicleAt(0, 10, 6), 1);
        due.same("the minute behind", x.vehicleAt(0, 11, 6), 0);
    }

    @Says(in = "Terms", words = "A vehicle is OUT for times (at most 4, none within another one).")
    static void outsOfEachVehicleAreTheirOwn(Due due) {
        StationRows x = World.vehicles(30);
        int[] full = {0, 1, 28, 29};
        for (int v : full) {
            for (int i = 0; i < 4; i++) {
                x.out(v, 100 * v + 10 * i, 100 * v + 10 * i + 5);
            }
        }
        for (int v : full) {
            for (int other : full) {
                int first = 100 * other;
                due.same(v + " at the first minute of " + other, x.vehicleAt(v, first, 6), v == other ? 1 : 0);
                due.same(v + " at the last minute of " + other, x.vehicleAt(v, first + 34, 6), v == other ? 1 : 0);
                if (v != other) {
                    due.noRoom("a fifth of " + v + " at a time of " + other, () -> x.out(v, first, first + 5));
                }
            }
        }
    }
}
