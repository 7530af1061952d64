/** The boundaries of minutes, hours and times that Terms name for all calls. */
final class TermsEdgeTest {
    private static final int DAY = 1440;
    private static final int LAST = 99999;

    public static void main(String[] args) {
        Due.runAll(TermsEdgeTest.class);
    }

    @Says(in = "Terms", words = "TIME is in minutes, 0 .. 99,999")
    static void minutesOfQuestions(Due due) {
        StationRows x = World.vehicles(1);
        due.range("on, minute", 0, LAST, t -> x.on(0, t));
        due.range("at, minute", 0, LAST, t -> x.at(0, t, 0));
        due.range("lacks, minute", 0, LAST, t -> x.lacks(0, t));
        due.range("missing, minute", 0, LAST, t -> x.missing(t, 0));
        due.range("check, minute", 0, LAST, t -> x.check(0, 0, t));
        for (int what = 0; what < 7; what++) {
            int asked = what;
            due.range("vehicleAt, what " + what + ", minute", 0, LAST, t -> x.vehicleAt(0, t, asked));
        }
    }

    @Says(in = "Terms", words = "the HOUR of a minute t is t / 60 modulo 24")
    static void hoursBeginAndEnd(Due due) {
        StationRows x = World.stations(1);
        for (int hour = 0; hour < 24; hour++) {
            x.need(0, hour, hour + 1);
        }
        for (int day : new int[] {0, 1, 2, 68}) {
            for (int hour = 0; hour < 24; hour++) {
                int first = day * DAY + 60 * hour;
                due.same("lacks(0, " + first + ")", x.lacks(0, first), hour + 1);
                due.same("lacks(0, " + (first + 59) + ")", x.lacks(0, first + 59), hour + 1);
            }
        }
    }

    @Says(in = "Terms", words = "the HOUR of a minute t is t / 60 modulo 24")
    static void hoursBeginAgainEachDay(Due due) {
        StationRows x = World.stations(1);
        x.need(0, 0, 1);
        x.need(0, 23, 9);
        due.same("the first minute of all", x.lacks(0, 0), 1);
        due.same("the last minute of the first day", x.lacks(0, DAY - 1), 9);
        due.same("the first minute of the second day", x.lacks(0, DAY), 1);
        due.same("the last minute of its first hour", x.lacks(0, DAY + 59), 1);
        due.same("the first minute of its second hour", x.lacks(0, DAY + 60), 0);
        due.same("the last minute of day 68", x.lacks(0, 69 * DAY - 1), 9);
        due.same("the first minute of day 69", x.lacks(0, 69 * DAY), 1);
    }

    @Says(in = "Terms", words = "the HOUR of a minute t is t / 60 modulo 24")
    static void hourOfTheLastMinute(Due due) {
        StationRows x = World.stations(1);
        x.need(0, 10, 7);
        due.same("lacks(0, 99999), in hour 10", x.lacks(0, LAST), 7);
        due.same("lacks(0, 99960), the hour's first minute", x.lacks(0, 99960), 7);
        due.same("lacks(0, 99959), in hour 9", x.lacks(0, 99959), 0);
    }

    @Says(in = "Terms", words = "has the first, not the last; it is 1 minute or more")
    static void timeOfOneMinute(Due due) {
        StationRows x = new StationRows();
        x.temporary(1, 5, 6);
        x.station(1);
        x.vehicle(1, 0, 1);
        x.out(0, 15, 16);
        x.person(1, 0);
        x.duty(0, 25, 26);
        x.period(0, 0, 1);
        due.same("temporary, the minute before", x.missing(4, 0), -1);
        due.same("temporary, its minute", x.missing(5, 0), 0);
        due.same("temporary, the minute behind", x.missing(6, 0), -1);
        due.same("out, the minute before", x.vehicleAt(0, 14, 6), 0);
        due.same("out, its minute", x.vehicleAt(0, 15, 6), 1);
        due.same("out, the minute behind", x.vehicleAt(0, 16, 6), 0);
        due.same("duty, the minute before", x.on(1, 24), 0);
        due.same("duty, its minute", x.on(1, 25), 1);
        due.same("duty, the minute behind", x.on(1, 26), 0);
    }

    @Says(in = "Terms", words = "has the first, not the last; it is 1 minute or more")
    static void moveOfOneMinute(Due due) {
        StationRows x = World.persons(1);
        x.duty(0, 0, 100);
        x.move(0, 1, 35, 36);
        for (int t = 34; t <= 36; t++) {
            due.same("at home at " + t, x.on(0, t), t == 35 ? 0 : 1);
            due.same("moved at " + t, x.on(1, t), t == 35 ? 1 : 0);
        }
    }

    @Says(in = "Terms", words = "(both 0 .. 99,999) has the first, not the last")
    static void longestTimeHasNotTheLastMinute(Due due) {
        StationRows x = new StationRows();
        x.station(1);
        x.temporary(1, 0, LAST);
        x.vehicle(0, 0, 1);
        x.out(0, 0, LAST);
        x.person(0, 0);
        x.duty(0, 0, LAST);
        x.period(1, 0, 1);
        for (int t : new int[] {0, LAST - 1, LAST}) {
            due.same("temporary at " + t, x.missing(t, 0), t < LAST ? 10 : -1);
            due.same("out at " + t, x.vehicleAt(0, t, 6), t < LAST ? 1 : 0);
            due.same("duty at " + t, x.on(0, t), t < LAST ? 1 : 0);
        }
        x.move(0, 1, 0, LAST);
        due.same("moved at 0", x.on(1, 0), 1);
        due.same("moved at 99998", x.on(1, LAST - 1), 1);
        due.same("not at home at 99998", x.on(0, LAST - 1), 0);
    }

    @Says(in = "Terms", words = "a temporary one is there for a time only, any other one always")
    static void otherStationsAreThereAlways(Due due) {
        StationRows x = World.stations(2);
        x.period(1, 4, 1);
        x.need(1, 0, 3);
        x.need(1, 10, 3);
        for (int t : new int[] {0, LAST}) {
            due.same("missing at " + t, x.missing(t, 0), 14);
            due.same("lacks at " + t, x.lacks(1, t), 3);
        }
    }

    @Says(in = "Terms", words = "times of one kind of a person have no minute in common")
    static void timesOfTwoKindsMayMeet(Due due) {
        StationRows x = World.persons(1);
        x.duty(0, 10, 20);
        due.taken("a move at the minutes of a duty", () -> x.move(0, 1, 10, 20));
        due.taken("a duty at the minutes of another move", () -> {
            x.move(0, 1, 30, 40);
            x.duty(0, 30, 40);
        });
        due.same("on duty there at 10", x.on(1, 10), 1);
        due.same("on duty there at 39", x.on(1, 39), 1);
    }

    @Says(in = "What it is", words = "An object is used for at most 512 calls after it has been made")
    static void lastOfAllCalls(Due due) {
        StationRows x = World.stations(12);
        for (int call = 13; call < 512; call++) {
            if (call % 2 == 0) {
                x.key(11, 99, call % 4 == 2);
            } else {
                due.noRoom("call " + call, () -> x.station(1));
            }
        }
        due.same("the 512th call", x.holder(99, 0), 11);
    }
}
