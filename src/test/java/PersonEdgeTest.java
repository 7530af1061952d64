/** The boundaries of promises 6 to 8: person, duty, move. */
final class PersonEdgeTest {
    /** Each shares a minute with the time 100 .. 200. */
    private static final int[][] MEETING = {
        {100, 200}, {100, 101}, {199, 200}, {150, 151}, {101, 199}, {99, 101}, {99, 200}, {99, 201}, {100, 201},
        {199, 201}, {0, 101}, {199, 99999}, {0, 99999}};
    private static final int[][] TOUCHING = {{99, 100}, {0, 100}, {0, 99}, {200, 201}, {200, 99999}, {201, 99999}};

    public static void main(String[] args) {
        Due.runAll(PersonEdgeTest.class);
    }

    @Says(in = "Promise 6", words = "IllegalArgumentException: no such station")
    static void personStations(Due due) {
        for (int count : new int[] {0, 1, 2, 12}) {
            due.numbers("person, station of " + count, count, s -> World.stations(count).person(s, 0));
        }
    }

    @Says(in = "Promise 6", words = "IndexOutOfBoundsException: the distance")
    static void personDistances(Due due) {
        due.range("person, distance", 0, 120, distance -> World.stations(1).person(0, distance));
    }

    @Says(in = "Promise 6", words = "One more person: its number.")
    static void personsAreNumberedFromNull(Due due) {
        StationRows x = World.stations(2);
        for (int p = 0; p < 60; p++) {
            int next = p + 1;
            due.same("person " + p, x.person(p % 2, 2 * p), p);
            x.duty(p, 0, 1);
            due.unknown("person " + next + " is not known yet", () -> x.duty(next, 0, 1));
        }
    }

    @Says(in = "Promise 6", words = "UnsupportedOperationException: there are 60.")
    static void personsJustFull(Due due) {
        StationRows x = World.persons(59);
        due.same("the 60th", x.person(1, 120), 59);
        due.noRoom("a 61st", () -> x.person(0, 0));
        due.noRoom("a 61st at the other station", () -> x.person(1, 120));
        due.unknown("no 61st was kept: duty", () -> x.duty(60, 0, 1));
        due.unknown("no 61st was kept: move", () -> x.move(60, 1, 0, 1));
        due.same("no 61st was kept: limit", x.limit(119), 1);
        x.duty(59, 0, 1);
        x.limit(120);
        due.same("the 60th is known", x.at(1, 0, 0), 59);
    }

    @Says(in = "Promise 6", words = "UnsupportedOperationException: there are 60.")
    static void refusedPersonTakesNoNumber(Due due) {
        StationRows x = World.stations(1);
        due.outside("distance -1", () -> x.person(0, -1));
        due.outside("distance 121", () -> x.person(0, 121));
        due.unknown("station 1", () -> x.person(1, 0));
        due.unknown("person 0 is not known", () -> x.duty(0, 0, 1));
        for (int p = 0; p < 60; p++) {
            due.outside("distance 121", () -> x.person(0, 121));
            due.same("person " + p, x.person(0, 0), p);
        }
        due.noRoom("a 61st", () -> x.person(0, 0));
    }

    @Says(in = "Promise 6", words = "One more person")
    static void personWithoutADutyIsNotOn(Due due) {
        StationRows x = World.persons(1);
        due.same("on at 0", x.on(0, 0), 0);
        due.same("on at 99999", x.on(0, 99999), 0);
        due.same("at", x.at(0, 0, 0), -1);
    }

    @Says(in = "Promise 7", words = "IllegalArgumentException: no such person")
    static void dutyPersons(Due due) {
        for (int count : new int[] {0, 1, 2, 60}) {
            due.numbers("duty, person of " + count, count, p -> World.persons(count).duty(p, 0, 1));
        }
    }

    @Says(in = "Promise 7", words = "IndexOutOfBoundsException: times")
    static void dutyTimes(Due due) {
        due.times("duty", (from, to) -> World.persons(1).duty(0, from, to));
    }

    @Says(in = "Promise 7", words = "IllegalStateException: there is one with some minute of it")
    static void dutiesThatMeet(Due due) {
        for (int[] time : MEETING) {
            StationRows x = World.persons(1);
            x.duty(0, 100, 200);
            due.wrongState("duty " + time[0] + " .. " + time[1], () -> x.duty(0, time[0], time[1]));
            due.same("not on the minute before", x.on(0, 99), 0);
            due.same("not on the minute behind", x.on(0, 200), 0);
            due.same("the first one holds", x.on(0, 100), 1);
        }
    }

    @Says(in = "Promise 7", words = "IllegalStateException: there is one with some minute of it")
    static void dutiesThatTouch(Due due) {
        for (int[] time : TOUCHING) {
            StationRows x = World.persons(1);
            x.duty(0, 100, 200);
            due.taken("duty " + time[0] + " .. " + time[1], () -> x.duty(0, time[0], time[1]));
            due.same("its first minute", x.on(0, time[0]), 1);
            due.same("its last minute", x.on(0, time[1] - 1), 1);
        }
    }

    @Says(in = "Promise 7", words = "IllegalStateException: there is one with some minute of it")
    static void dutyMeetsAnyOfThem(Due due) {
        StationRows x = World.persons(1);
        for (int first : new int[] {50, 10, 70, 30, 90}) {
            x.duty(0, first, first + 10);
        }
        for (int first : new int[] {10, 30, 50, 70, 90}) {
            due.wrongState("the first minute of " + first, () -> x.duty(0, first - 1, first + 1));
            due.wrongState("the last minute of " + first, () -> x.duty(0, first + 9, first + 10));
        }
        due.taken("the minutes between two", () -> x.duty(0, 40, 50));
        due.noRoom("that was the sixth", () -> x.duty(0, 60, 70));
    }

    @Says(in = "Promise 7", words = "UnsupportedOperationException: there are 6.")
    static void dutiesJustFull(Due due) {
        StationRows x = World.persons(2);
        for (int i = 0; i < 6; i++) {
            int from = 10 * i;
            due.taken("duty " + i, () -> x.duty(0, from, from + 5));
        }
        due.noRoom("a seventh", () -> x.duty(0, 60, 65));
        due.noRoom("a seventh between two", () -> x.duty(0, 5, 10));
        due.same("no seventh was kept", x.on(0, 60), 0);
        due.same("no seventh was kept between two", x.on(0, 5), 0);
        due.same("the sixth holds", x.on(0, 54), 1);
        for (int i = 0; i < 6; i++) {
            int from = 10 * i;
            due.taken("duty " + i + " of another person", () -> x.duty(1, from, from + 5));
        }
        due.noRoom("a seventh of the other person", () -> x.duty(1, 60, 65));
    }

    @Says(in = "Promise 7", words = "UnsupportedOperationException: there are 6.")
    static void refusedDutyTakesNoRoom(Due due) {
        StationRows x = World.persons(1);
        for (int i = 0; i < 6; i++) {
            int from = 10 * i;
            due.outside("no minute", () -> x.duty(0, from, from));
            due.outside("to 100000", () -> x.duty(0, from, 100000));
            due.taken("duty " + i, () -> x.duty(0, from, from + 5));
            due.wrongState("the same once more", () -> x.duty(0, from, from + 5));
        }
        due.noRoom("a seventh", () -> x.duty(0, 60, 65));
    }

    @Says(in = "Promise 7", words = "A duty.")
    static void dutyBeforeAtAndBehind(Due due) {
        StationRows x = World.persons(1);
        x.duty(0, 100, 200);
        int[] minutes = {0, 99, 100, 199, 200, 99999};
        int[] on = {0, 0, 1, 1, 0, 0};
        for (int i = 0; i < minutes.length; i++) {
            due.same("on at " + minutes[i], x.on(0, minutes[i]), on[i]);
            due.same("at at " + minutes[i], x.at(0, minutes[i], 0), on[i] - 1);
        }
    }

    @Says(in = "Promise 8", words = "IllegalArgumentException: no such person or station")
    static void movePersons(Due due) {
        for (int count : new int[] {0, 1, 2, 60}) {
            due.numbers("move, person of " + count, count, p -> World.persons(count).move(p, 1, 0, 1));
        }
    }

    @Says(in = "Promise 8", words = "IllegalArgumentException: no such person or station")
    static void moveStations(Due due) {
        for (int count : new int[] {2, 12}) {
            StationRows x = World.stations(count);
            x.person(0, 0);
            for (int station : new int[] {Integer.MIN_VALUE, -1, count, Integer.MAX_VALUE}) {
                due.unknown("move, station " + station, () -> x.move(0, station, 0, 1));
            }
            due.taken("the first station but home", () -> x.move(0, 1, 0, 1));
            due.taken("the last station", () -> x.move(0, count - 1, 1, 2));
        }
    }

    @Says(in = "Promise 8", words = "IndexOutOfBoundsException: times")
    static void moveTimes(Due due) {
        due.times("move", (from, to) -> World.persons(1).move(0, 1, from, to));
    }

    @Says(in = "Promise 8", words = "IllegalStateException: likewise")
    static void movesThatMeet(Due due) {
        for (int[] time : MEETING) {
            for (int station = 1; station <= 2; station++) {
                StationRows x = threeStations();
                int to = station;
                x.move(0, 1, 100, 200);
                due.wrongState("move " + time[0] + " .. " + time[1], () -> x.move(0, to, time[0], time[1]));
                due.same("at home the minute before", x.on(0, 99), 1);
                due.same("moved", x.on(1, 100), 1);
                due.same("not moved on", x.on(2, 199), 0);
                due.same("at home the minute behind", x.on(0, 200), 1);
            }
        }
    }

    @Says(in = "Promise 8", words = "IllegalStateException: likewise")
    static void movesThatTouch(Due due) {
        for (int[] time : TOUCHING) {
            StationRows x = threeStations();
            x.move(0, 1, 100, 200);
            due.taken("move " + time[0] + " .. " + time[1], () -> x.move(0, 2, time[0], time[1]));
            due.same("its first minute", x.on(2, time[0]), 1);
            due.same("its last minute", x.on(2, time[1] - 1), 1);
            due.same("the first move's first minute", x.on(1, 100), 1);
            due.same("the first move's last minute", x.on(1, 199), 1);
        }
    }

    private static StationRows threeStations() {
        StationRows x = World.stations(3);
        x.person(0, 0);
        x.duty(0, 0, 99999);
        return x;
    }

    @Says(in = "Promise 8", words = "or it is the home station")
    static void moveHome(Due due) {
        StationRows x = World.stations(12);
        x.person(0, 0);
        x.person(11, 0);
        due.wrongState("to the first station, from it", () -> x.move(0, 0, 0, 1));
        due.wrongState("to the last station, from it", () -> x.move(1, 11, 0, 1));
        due.taken("to the last station, from the first", () -> x.move(0, 11, 0, 1));
        due.taken("to the first station, from the last", () -> x.move(1, 0, 0, 1));
        due.wrongState("home again at once", () -> x.move(0, 0, 1, 2));
        due.taken("the time of the refused one is free", () -> x.move(0, 1, 1, 2));
    }

    @Says(in = "Promise 8", words = "UnsupportedOperationException: there are 3.")
    static void movesJustFull(Due due) {
        StationRows x = World.persons(2);
        x.duty(0, 0, 100);
        for (int i = 0; i < 3; i++) {
            int from = 10 * i;
            due.taken("move " + i, () -> x.move(0, 1, from, from + 5));
        }
        due.noRoom("a fourth", () -> x.move(0, 1, 30, 35));
        due.noRoom("a fourth between two", () -> x.move(0, 1, 5, 10));
        due.same("no fourth was kept", x.on(0, 30), 1);
        due.same("no fourth was kept between two", x.on(0, 5), 1);
        due.same("the third holds", x.on(1, 24), 1);
        for (int i = 0; i < 3; i++) {
            int from = 10 * i;
            due.taken("move " + i + " of another person", () -> x.move(1, 1, from, from + 5));
        }
        due.noRoom("a fourth of the other person", () -> x.move(1, 1, 30, 35));
    }

    @Says(in = "Promise 8", words = "UnsupportedOperationException: there are 3.")
    static void refusedMoveTakesNoRoom(Due due) {
        StationRows x = World.persons(1);
        for (int i = 0; i < 3; i++) {
            int from = 10 * i;
            due.unknown("no such station", () -> x.move(0, 2, from, from + 5));
            due.outside("no minute", () -> x.move(0, 1, from, from));
            due.wrongState("home", () -> x.move(0, 0, from, from + 5));
            due.taken("move " + i, () -> x.move(0, 1, from, from + 5));
            due.wrongState("the same once more", () -> x.move(0, 1, from, from + 5));
        }
        due.noRoom("a fourth", () -> x.move(0, 1, 30, 35));
    }

    @Says(in = "Promise 8", words = "A move.")
    static void refusedMoveKeepsTheStationsOfTheOthers(Due due) {
        StationRows x = threeStations();
        x.move(0, 1, 0, 10);
        due.wrongState("to another station at the same time", () -> x.move(0, 2, 0, 10));
        due.same("still at the first one", x.on(1, 0), 1);
        x.move(0, 1, 10, 20);
        x.move(0, 1, 20, 30);
        due.noRoom("a fourth to another station", () -> x.move(0, 2, 30, 40));
        due.same("not at the other one", x.on(2, 30), 0);
        due.same("the third one holds", x.on(1, 29), 1);
    }

    @Says(in = "Terms", words = "A person IS AT the station of the move that has the minute, otherwise at home")
    static void moveBeforeAtAndBehind(Due due) {
        StationRows x = threeStations();
        x.move(0, 2, 100, 200);
        int[] minutes = {0, 99, 100, 199, 200, 99998};
        int[] moved = {0, 0, 1, 1, 0, 0};
        for (int i = 0; i < minutes.length; i++) {
            due.same("there at " + minutes[i], x.on(2, minutes[i]), moved[i]);
            due.same("at home at " + minutes[i], x.on(0, minutes[i]), 1 - moved[i]);
            due.same("never at the third", x.on(1, minutes[i]), 0);
        }
    }

    @Says(in = "Terms", words = "ON DUTY at a minute in some duty, when the station is there then")
    static void movedToAStationThatIsNotThere(Due due) {
        StationRows x = World.stations(1);
        x.temporary(1, 150, 160);
        World.crew(x, 0, 0, 0);
        due.taken("to a station that is not there all the time", () -> x.move(0, 1, 100, 200));
        for (int t : new int[] {100, 149, 160, 199}) {
            due.same("not there at " + t, x.on(1, t), 0);
            due.same("not at home at " + t, x.on(0, t), 0);
        }
        due.same("there at 150", x.on(1, 150), 1);
        due.same("there at 159", x.on(1, 159), 1);
        due.same("at home at 200", x.on(0, 200), 1);
    }

    @Says(in = "Terms", words = "ON DUTY at a minute in some duty, when the station is there then")
    static void movedAwayWhileHomeIsNotThere(Due due) {
        StationRows x = new StationRows();
        x.temporary(1, 150, 160);
        x.station(1);
        World.crew(x, 0, 0, 0);
        x.move(0, 1, 155, 165);
        due.same("home not there yet", x.on(0, 149), 0);
        due.same("at home", x.on(0, 154), 1);
        due.same("moved", x.on(1, 155), 1);
        due.same("moved, home not there any more", x.on(1, 164), 1);
        due.same("back, home not there any more", x.on(0, 165), 0);
        due.same("back, not at the other one", x.on(1, 165), 0);
    }

    @Says(in = "Terms", words = "DUTIES (at most 6 times)")
    static void dutiesOfEachPersonAreTheirOwn(Due due) {
        StationRows x = World.stations(4);
        int[] full = {0, 1, 58, 59};
        for (int p = 0; p < 60; p++) {
            x.person(p % 4, 0);
        }
        for (int p : full) {
            for (int i = 0; i < 6; i++) {
                x.duty(p, 100 * p + 10 * i, 100 * p + 10 * i + 5);
            }
        }
        for (int p : full) {
            for (int other : full) {
                int first = 100 * other;
                due.same(p + " at the first minute of " + other, x.on(p % 4, first), p == other ? 1 : 0);
                due.same(p + " at the last minute of " + other, x.on(p % 4, first + 54), p == other ? 1 : 0);
                if (p != other) {
                    due.noRoom("a seventh of " + p + " at a time of " + other, () -> x.duty(p, first, first + 5));
                }
            }
        }
    }

    @Says(in = "Terms", words = "MOVES to another station (at most 3 times)")
    static void movesOfEachPersonAreTheirOwn(Due due) {
        StationRows x = World.stations(12);
        for (int p = 0; p < 60; p++) {
            x.person(0, 0);
        }
        int[] full = {0, 1, 59};
        for (int place = 0; place < 9; place++) {
            x.move(full[place / 3], 1 + place, 10 * place, 10 * place + 5);
        }
        for (int p : full) {
            x.duty(p, 0, 100);
        }
        for (int place = 0; place < 9; place++) {
            int person = full[place / 3];
            for (int t : new int[] {10 * place, 10 * place + 4}) {
                due.same("there at " + t, x.on(1 + place, t), 1);
                due.same("who is there at " + t, x.at(1 + place, t, 0), person);
                due.same("two are at home at " + t, x.on(0, t), 2);
            }
            due.same("all are at home at " + (10 * place + 5), x.on(0, 10 * place + 5), 3);
            int other = full[(place / 3 + 1) % 3];
            int first = 10 * place;
            due.noRoom("a fourth of " + other + " at a time of " + person, () -> x.move(other, 11, first, first + 5));
        }
    }
}
