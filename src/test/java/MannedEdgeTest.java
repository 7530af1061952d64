/** The boundaries of promise 12, vehicleAt, and of what Terms say of manned vehicles and spare ones. */
final class MannedEdgeTest {
    private static final int[] NOTHING = {0, 0, 0, -1, -1, -1, 0};
    private static final int[] ONLY_OUT = {0, 0, 0, -1, -1, -1, 1};

    public static void main(String[] args) {
        Due.runAll(MannedEdgeTest.class);
    }

    /** Manned, delay, persons, lowest person, stands for, spare one, out. */
    private static void all(Due due, StationRows x, int vehicle, int t, int... want) {
        for (int what = 0; what < 7; what++) {
            due.same("vehicleAt(" + vehicle + ", " + t + ", " + what + ")", x.vehicleAt(vehicle, t, what), want[what]);
        }
    }

    private static void standsFor(Due due, StationRows x, int spare, int t, int vehicle) {
        due.same("what " + spare + " stands for at " + t, x.vehicleAt(spare, t, 4), vehicle);
        if (vehicle >= 0) {
            due.same("what stands for " + vehicle + " at " + t, x.vehicleAt(vehicle, t, 5), spare);
        }
    }

    @Says(in = "Promise 12", words = "IllegalArgumentException: no such vehicle or what")
    static void vehicleNumbers(Due due) {
        for (int count : new int[] {0, 1, 2, 30}) {
            StationRows x = World.vehicles(count);
            for (int what = 0; what < 7; what++) {
                int asked = what;
                due.numbers("vehicleAt, vehicle of " + count, count, v -> x.vehicleAt(v, 0, asked));
            }
        }
    }

    @Says(in = "Promise 12", words = "IllegalArgumentException: no such vehicle or what")
    static void whats(Due due) {
        StationRows x = World.vehicles(1);
        due.numbers("vehicleAt, what", 7, what -> x.vehicleAt(0, 0, what));
    }

    @Says(in = "Promise 12", words = "IndexOutOfBoundsException: the minute.")
    static void minutes(Due due) {
        StationRows x = World.vehicles(1);
        for (int what = 0; what < 7; what++) {
            int asked = what;
            due.range("vehicleAt, what " + what + ", minute", 0, 99999, t -> x.vehicleAt(0, t, asked));
        }
    }

    @Says(in = "Promise 12", words = "1 its delay (0 when it has no persons)")
    static void vehicleWithNothing(Due due) {
        StationRows x = World.stations(1);
        x.vehicle(0, 0, 1);
        x.vehicle(0, 0, 0);
        for (int t : new int[] {0, 99999}) {
            all(due, x, 0, t, NOTHING);
            all(due, x, 1, t, NOTHING);
        }
    }

    @Says(in = "Terms", words = "as many as their crew")
    static void crewsOfOneToNine(Due due) {
        for (int crew = 1; crew <= 9; crew++) {
            StationRows x = World.stations(1);
            x.vehicle(0, 0, crew);
            for (int p = 0; p < crew; p++) {
                all(due, x, 0, 0, NOTHING);
                World.crew(x, 0, p, 0);
            }
            all(due, x, 0, 0, 2, 0, crew, 0, -1, -1, 0);
            World.crew(x, 0, crew, 0);
            all(due, x, 0, 0, 2, 0, crew, 0, -1, -1, 0);
        }
    }

    @Says(in = "Terms", words =
            "as long as there are enough: a vehicle without enough takes none, and the next "
            + "one is looked at")
    static void withoutEnoughTakesNone(Due due) {
        StationRows x = World.stations(1);
        x.vehicle(0, 0, 4);
        x.vehicle(0, 0, 9);
        x.vehicle(0, 0, 3);
        x.vehicle(0, 0, 1);
        World.crew(x, 0, 0, 0, 0, 0);
        all(due, x, 0, 0, NOTHING);
        all(due, x, 1, 0, NOTHING);
        all(due, x, 2, 0, 2, 0, 3, 0, -1, -1, 0);
        all(due, x, 3, 0, NOTHING);
        World.crew(x, 0, 3, 0);
        all(due, x, 0, 0, 2, 0, 4, 0, -1, -1, 0);
        all(due, x, 1, 0, NOTHING);
        all(due, x, 2, 0, NOTHING);
        all(due, x, 3, 0, NOTHING);
        World.crew(x, 0, 4, 0);
        all(due, x, 2, 0, NOTHING);
        all(due, x, 3, 0, 2, 0, 1, 4, -1, -1, 0);
    }

    @Says(in = "Terms", words = "take from the persons of the station, in their order")
    static void eachTakesBehindTheOneBefore(Due due) {
        StationRows x = World.stations(1);
        x.vehicle(0, 0, 2);
        x.vehicle(0, 0, 2);
        World.crew(x, 0, 0, 4, 3, 2, 1);
        all(due, x, 0, 0, 1, 2, 2, 2, -1, -1, 0);
        all(due, x, 1, 0, 1, 4, 2, 0, -1, -1, 0);
    }

    @Says(in = "Terms", words =
            "A vehicle is manned (2) when all its persons have distance 0, ON CALL (1) when "
            + "some have more, else not (0).")
    static void mannedOnCallAndNot(Due due) {
        StationRows x = World.stations(1);
        x.vehicle(0, 0, 2);
        World.crew(x, 0, 0, 0, 1, 0);
        x.duty(2, 2000, 2010);
        x.duty(0, 2000, 2010);
        x.duty(1, 2005, 2020);
        all(due, x, 0, 0, 2, 0, 2, 0, -1, -1, 0);
        all(due, x, 0, 2000, 2, 0, 2, 0, -1, -1, 0);
        all(due, x, 0, 2010, NOTHING);
        World.crew(x, 0, 3, 120);
        x.duty(3, 2010, 2030);
        all(due, x, 0, 2010, 1, 120, 2, 1, -1, -1, 0);
        all(due, x, 0, 2019, 1, 120, 2, 1, -1, -1, 0);
        all(due, x, 0, 2020, NOTHING);
    }

    @Says(in = "Terms", words = "Its DELAY is the greatest distance of its persons.")
    static void delaysOfOneAndOfTheGreatest(Due due) {
        StationRows x = World.stations(1);
        x.vehicle(0, 0, 2);
        x.vehicle(0, 0, 1);
        x.vehicle(0, 0, 1);
        World.crew(x, 0, 0, 120, 0, 1, 0);
        all(due, x, 0, 0, 2, 0, 2, 1, -1, -1, 0);
        all(due, x, 1, 0, 1, 1, 1, 2, -1, -1, 0);
        all(due, x, 2, 0, 1, 120, 1, 0, -1, -1, 0);
    }

    @Says(in = "Promise 12", words = "3 its lowest person (-1)")
    static void lowestPersonIsNotTheNearest(Due due) {
        StationRows x = World.stations(1);
        x.vehicle(0, 0, 3);
        World.crew(x, 0, 0, 9, 8, 7);
        all(due, x, 0, 0, 1, 9, 3, 0, -1, -1, 0);
        World.crew(x, 0, 3, 0);
        all(due, x, 0, 0, 1, 8, 3, 1, -1, -1, 0);
    }

    @Says(in = "Promise 12", words = "6 whether it is out (1, 0)")
    static void outBeforeAtAndBehind(Due due) {
        StationRows x = World.stations(1);
        x.vehicle(0, 0, 1);
        x.vehicle(0, 1, 1);
        World.crew(x, 0, 0, 0);
        x.out(0, 100, 200);
        for (int t : new int[] {99, 200}) {
            all(due, x, 0, t, 2, 0, 1, 0, -1, -1, 0);
            all(due, x, 1, t, NOTHING);
        }
        for (int t : new int[] {100, 199}) {
            all(due, x, 0, t, ONLY_OUT);
            all(due, x, 1, t, 2, 0, 1, 0, -1, -1, 0);
        }
    }

    @Says(in = "Terms", words = "those that are there and not out")
    static void stationThatIsNotThere(Due due) {
        StationRows x = new StationRows();
        x.temporary(1, 100, 200);
        x.vehicle(0, 0, 1);
        World.crew(x, 0, 0, 5);
        for (int t : new int[] {0, 99, 200, 999}) {
            all(due, x, 0, t, NOTHING);
        }
        for (int t : new int[] {100, 199}) {
            all(due, x, 0, t, 1, 5, 1, 0, -1, -1, 0);
        }
        x.out(0, 99, 100);
        x.out(0, 200, 201);
        all(due, x, 0, 99, ONLY_OUT);
        all(due, x, 0, 200, ONLY_OUT);
    }

    @Says(in = "Terms", words = "spare ones only when they stand for one that is out")
    static void spareOneAloneTakesNone(Due due) {
        StationRows x = World.stations(1);
        x.vehicle(0, 0, 0);
        x.vehicle(0, 0, 1);
        World.crew(x, 0, 0, 0, 0);
        all(due, x, 0, 0, NOTHING);
        all(due, x, 1, 0, 2, 0, 1, 0, -1, -1, 0);
    }

    @Says(in = "Terms", words = "A SPARE stands for a vehicle that is out")
    static void spareBeforeAtAndBehindTheOut(Due due) {
        StationRows x = World.stations(1);
        x.vehicle(0, 0, 1);
        x.vehicle(0, 0, 0);
        World.crew(x, 0, 0, 0);
        x.out(0, 100, 200);
        for (int t : new int[] {99, 200}) {
            all(due, x, 0, t, 2, 0, 1, 0, -1, -1, 0);
            all(due, x, 1, t, NOTHING);
        }
        for (int t : new int[] {100, 199}) {
            all(due, x, 0, t, 0, 0, 0, -1, -1, 1, 1);
            all(due, x, 1, t, 2, 0, 1, 0, 0, -1, 0);
        }
    }

    @Says(in = "Terms", words = "the lowest spare one of its kind, not out")
    static void spareOutBeforeAtAndBehind(Due due) {
        StationRows x = World.stations(1);
        x.vehicle(0, 0, 1);
        x.vehicle(0, 0, 0);
        x.out(0, 0, 1000);
        x.out(1, 100, 200);
        standsFor(due, x, 1, 99, 0);
        standsFor(due, x, 1, 200, 0);
        for (int t : new int[] {100, 199}) {
            all(due, x, 0, t, ONLY_OUT);
            all(due, x, 1, t, ONLY_OUT);
        }
    }

    @Says(in = "Terms", words = "the lowest spare one of its kind, not out")
    static void nextSpareWhenTheLowestIsOut(Due due) {
        StationRows x = World.stations(1);
        x.vehicle(0, 0, 0);
        x.vehicle(0, 0, 1);
        x.vehicle(0, 0, 0);
        x.out(1, 0, 1000);
        x.out(0, 100, 200);
        standsFor(due, x, 0, 99, 1);
        standsFor(due, x, 2, 99, -1);
        standsFor(due, x, 2, 100, 1);
        standsFor(due, x, 0, 100, -1);
        standsFor(due, x, 2, 199, 1);
        standsFor(due, x, 0, 200, 1);
    }

    @Says(in = "Terms", words = "the lowest spare one of its kind")
    static void firstAndLastKind(Due due) {
        StationRows x = World.stations(1);
        x.vehicle(0, 0, 1);
        x.vehicle(0, 9, 1);
        x.vehicle(0, 9, 0);
        x.vehicle(0, 1, 0);
        x.vehicle(0, 8, 0);
        x.vehicle(0, 0, 0);
        x.out(0, 0, 10);
        x.out(1, 0, 10);
        standsFor(due, x, 2, 0, 1);
        standsFor(due, x, 5, 0, 0);
        standsFor(due, x, 3, 0, -1);
        standsFor(due, x, 4, 0, -1);
    }

    @Says(in = "Terms", words = "the lowest spare one of its kind")
    static void noSpareOfItsKind(Due due) {
        StationRows x = World.stations(1);
        x.vehicle(0, 5, 1);
        x.vehicle(0, 4, 0);
        x.vehicle(0, 6, 0);
        x.out(0, 0, 10);
        all(due, x, 0, 0, ONLY_OUT);
        all(due, x, 1, 0, NOTHING);
        all(due, x, 2, 0, NOTHING);
    }

    @Says(in = "Terms", words = "at a station that is there")
    static void spareOfATemporaryStation(Due due) {
        StationRows x = World.stations(1);
        x.temporary(1, 100, 200);
        x.vehicle(0, 0, 1);
        x.vehicle(1, 0, 0);
        World.crew(x, 1, 0, 5);
        x.out(0, 0, 1000);
        for (int t : new int[] {99, 200}) {
            all(due, x, 0, t, ONLY_OUT);
            all(due, x, 1, t, NOTHING);
        }
        for (int t : new int[] {100, 199}) {
            all(due, x, 0, t, 0, 0, 0, -1, -1, 1, 1);
            all(due, x, 1, t, 1, 5, 1, 0, 0, -1, 0);
        }
    }

    @Says(in = "Terms", words = "for each vehicle (no spare one) that is out")
    static void spareThatIsOutGetsNone(Due due) {
        StationRows x = World.stations(1);
        x.vehicle(0, 0, 0);
        x.vehicle(0, 0, 0);
        x.out(0, 0, 10);
        all(due, x, 0, 0, ONLY_OUT);
        all(due, x, 1, 0, NOTHING);
    }

    @Says(in = "Terms", words = "that stands for none yet")
    static void fewerSparesThanVehiclesThatAreOut(Due due) {
        StationRows x = World.stations(1);
        for (int crew : new int[] {1, 1, 0, 0, 1}) {
            x.vehicle(0, 0, crew);
        }
        x.out(4, 0, 30);
        x.out(1, 10, 30);
        x.out(0, 20, 30);
        standsFor(due, x, 2, 9, 4);
        standsFor(due, x, 3, 9, -1);
        standsFor(due, x, 2, 10, 1);
        standsFor(due, x, 3, 10, 4);
        standsFor(due, x, 2, 20, 0);
        standsFor(due, x, 3, 20, 1);
        all(due, x, 4, 20, ONLY_OUT);
        standsFor(due, x, 2, 30, -1);
        standsFor(due, x, 3, 30, -1);
    }

    @Says(in = "Terms", words = "VEHICLES 0, 1, .. (at most 30)")
    static void fifteenSparesForFifteen(Due due) {
        StationRows x = World.stations(5);
        for (int v = 0; v < 30; v++) {
            x.vehicle(v / 6, 0, v < 15 ? 1 : 0);
        }
        for (int v = 0; v < 15; v++) {
            x.out(v, v, 100);
        }
        for (int i = 0; i < 15; i++) {
            standsFor(due, x, 15 + i, 14, i);
            standsFor(due, x, 15 + i, 13, i < 14 ? i : -1);
            standsFor(due, x, 15 + i, 100, -1);
        }
    }

    @Says(in = "Terms", words = "(of a spare one that of the vehicle that it stands for)")
    static void spareTakesJustTheOthersCrew(Due due) {
        StationRows x = World.stations(2);
        x.vehicle(1, 0, 0);
        x.vehicle(0, 0, 9);
        x.vehicle(1, 1, 1);
        x.out(1, 100, 200);
        for (int p = 0; p < 8; p++) {
            World.crew(x, 1, p, 0);
        }
        all(due, x, 0, 100, 0, 0, 0, -1, 1, -1, 0);
        all(due, x, 2, 100, 2, 0, 1, 0, -1, -1, 0);
        World.crew(x, 1, 8, 3);
        all(due, x, 0, 100, 1, 3, 9, 0, 1, -1, 0);
        all(due, x, 2, 100, NOTHING);
        all(due, x, 0, 99, NOTHING);
        all(due, x, 2, 99, 2, 0, 1, 0, -1, -1, 0);
        World.crew(x, 1, 9, 4);
        all(due, x, 0, 199, 1, 3, 9, 0, 1, -1, 0);
        all(due, x, 2, 199, 1, 4, 1, 9, -1, -1, 0);
    }

    @Says(in = "Terms", words = "(by numbers;")
    static void spareOneTakesInItsOwnPlace(Due due) {
        StationRows x = World.stations(1);
        x.vehicle(0, 0, 2);
        x.vehicle(0, 1, 1);
        x.vehicle(0, 0, 0);
        x.vehicle(0, 1, 1);
        World.crew(x, 0, 0, 0, 1, 2, 3);
        x.out(0, 10, 20);
        all(due, x, 1, 10, 2, 0, 1, 0, -1, -1, 0);
        all(due, x, 2, 10, 1, 2, 2, 1, 0, -1, 0);
        all(due, x, 3, 10, 1, 3, 1, 3, -1, -1, 0);
    }

    @Says(in = "Terms", words = "for each station, its vehicles")
    static void otherStationsTakeNothingAway(Due due) {
        StationRows x = World.stations(2);
        x.vehicle(0, 0, 9);
        x.vehicle(1, 0, 1);
        x.vehicle(0, 0, 1);
        x.vehicle(1, 0, 1);
        World.crew(x, 0, 0, 0);
        World.crew(x, 1, 1, 0, 6);
        all(due, x, 0, 0, NOTHING);
        all(due, x, 1, 0, 2, 0, 1, 1, -1, -1, 0);
        all(due, x, 2, 0, 2, 0, 1, 0, -1, -1, 0);
        all(due, x, 3, 0, 1, 6, 1, 2, -1, -1, 0);
    }

    @Says(in = "Promise 12", words = "4 the vehicle that it stands for (-1), 5 the spare one that stands for it (-1)")
    static void askingAgainAnswersTheSame(Due due) {
        StationRows x = World.stations(1);
        x.vehicle(0, 0, 1);
        x.vehicle(0, 0, 0);
        x.out(0, 10, 20);
        due.unknown("what 7", () -> x.vehicleAt(0, 10, 7));
        standsFor(due, x, 1, 10, 0);
        due.outside("minute -1", () -> x.vehicleAt(1, -1, 4));
        standsFor(due, x, 1, 9, -1);
        standsFor(due, x, 1, 10, 0);
        standsFor(due, x, 1, 20, -1);
    }

    @Says(in = "Terms", words = "and the distance is not above the LIMIT")
    static void limitTakesPersonsAway(Due due) {
        StationRows x = World.stations(1);
        x.vehicle(0, 0, 2);
        x.vehicle(0, 0, 1);
        World.crew(x, 0, 0, 10, 11);
        x.limit(11);
        all(due, x, 0, 0, 1, 11, 2, 0, -1, -1, 0);
        x.limit(10);
        all(due, x, 0, 0, NOTHING);
        all(due, x, 1, 0, 1, 10, 1, 0, -1, -1, 0);
        x.limit(9);
        all(due, x, 1, 0, NOTHING);
    }

    @Says(in = "Terms", words = "A person IS AT the station of the move that has the minute, otherwise at home")
    static void movedPersonsManVehiclesThere(Due due) {
        StationRows x = World.stations(2);
        x.vehicle(0, 0, 1);
        x.vehicle(1, 0, 1);
        World.crew(x, 0, 0, 0);
        x.move(0, 1, 10, 20);
        for (int t : new int[] {9, 10, 19, 20}) {
            boolean moved = t >= 10 && t < 20;
            due.same("home one manned at " + t, x.vehicleAt(0, t, 0), moved ? 0 : 2);
            due.same("other one manned at " + t, x.vehicleAt(1, t, 0), moved ? 2 : 0);
        }
    }

    @Says(in = "Terms", words = "VEHICLES 0, 1, .. (at most 30)")
    static void sixtyPersonsOfOneStation(Due due) {
        StationRows x = World.stations(1);
        for (int v = 0; v < 6; v++) {
            x.vehicle(0, v, 9);
        }
        for (int p = 0; p < 60; p++) {
            x.person(0, 60 - p);
            x.duty(p, 0, 1);
        }
        for (int v = 0; v < 6; v++) {
            all(due, x, v, 0, 1, 9 * (v + 1), 9, 51 - 9 * v, -1, -1, 0);
        }
        all(due, x, 5, 1, NOTHING);
    }
}
