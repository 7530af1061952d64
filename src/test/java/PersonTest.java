/** Promises 6 to 11: person, duty, move, limit, on, at. */
final class PersonTest {
    private static final Due DUE = new Due();

    public static void main(String[] args) {
        personRefuses();
        personsEndAtSixty();
        dutyHasItsTimes();
        dutyRefuses();
        moveTakesAPersonAway();
        moveToAStationThatIsNotThere();
        moveRefuses();
        limitKeepsFarOnesOff();
        rowIsOrdered();
        questionsRefuse();
        DUE.end();
    }

    private static void personRefuses() {
        StationRows x = new StationRows();
        DUE.unknown("no station at all", () -> x.person(0, 0));
        x.station(1);
        DUE.unknown("station 1", () -> x.person(1, 0));
        DUE.unknown("station -1", () -> x.person(-1, 0));
        DUE.unknown("station before distance", () -> x.person(1, 121));
        DUE.outside("distance -1", () -> x.person(0, -1));
        DUE.outside("distance 121", () -> x.person(0, 121));
        DUE.same("distance 0", x.person(0, 0), 0);
        DUE.same("distance 120", x.person(0, 120), 1);
    }

    private static void personsEndAtSixty() {
        StationRows x = new StationRows();
        x.station(1);
        for (int p = 0; p < 60; p++) {
            DUE.same("person " + p, x.person(0, 60 - p), p);
            x.duty(p, 0, 10);
        }
        DUE.noRoom("a 61st", () -> x.person(0, 0));
        DUE.outside("distance before room", () -> x.person(0, 121));
        DUE.unknown("station before room", () -> x.person(1, 0));
        DUE.same("all on", x.on(0, 0), 60);
        DUE.same("nearest", x.at(0, 0, 0), 59);
        DUE.same("farthest", x.at(0, 0, 59), 0);
        DUE.same("behind the last", x.at(0, 0, 60), -1);
        DUE.same("the first one is beyond", x.limit(59), 1);
        DUE.same("all are beyond", x.limit(0), 60);
        DUE.same("none is beyond", x.limit(120), 0);
        lastPersonHasFullRows(x);
    }

    private static void lastPersonHasFullRows(StationRows x) {
        x.station(1);
        for (int i = 1; i < 6; i++) {
            x.duty(59, 10 * i, 10 * i + 5);
        }
        for (int i = 0; i < 3; i++) {
            x.move(59, 1, 100 + i, 101 + i);
        }
        DUE.same("in the last duty", x.on(0, 54), 1);
        DUE.same("in no duty", x.on(0, 55), 0);
        DUE.noRoom("a seventh duty of the last person", () -> x.duty(59, 55, 60));
        DUE.noRoom("a fourth move of the last person", () -> x.move(59, 1, 103, 104));
    }

    private static void dutyHasItsTimes() {
        StationRows x = new StationRows();
        x.station(1);
        x.person(0, 0);
        DUE.same("no duty yet", x.on(0, 5), 0);
        x.duty(0, 5, 7);
        x.duty(0, 9, 10);
        x.duty(0, 7, 8);
        int[] due = {0, 1, 1, 1, 0, 1, 0};
        for (int i = 0; i < due.length; i++) {
            DUE.same("on at " + (4 + i), x.on(0, 4 + i), due[i]);
        }
    }

    private static void dutyRefuses() {
        StationRows x = new StationRows();
        x.station(1);
        DUE.unknown("no person at all", () -> x.duty(0, 1, 2));
        x.person(0, 0);
        x.person(0, 0);
        DUE.unknown("person 2", () -> x.duty(2, 1, 2));
        DUE.unknown("person -1", () -> x.duty(-1, 1, 2));
        DUE.unknown("person before times", () -> x.duty(2, 2, 1));
        DUE.outside("from -1", () -> x.duty(0, -1, 2));
        DUE.outside("to 100000", () -> x.duty(0, 1, 100000));
        DUE.outside("no minute", () -> x.duty(0, 2, 2));
        for (int i = 0; i < 6; i++) {
            x.duty(0, 10 * i, 10 * i + 5);
        }
        DUE.wrongState("within", () -> x.duty(0, 51, 52));
        DUE.wrongState("its last minute, before room", () -> x.duty(0, 54, 60));
        DUE.outside("times before state", () -> x.duty(0, 52, 51));
        DUE.noRoom("a seventh", () -> x.duty(0, 55, 60));
        DUE.same("the seventh was not kept", x.on(0, 55), 0);
        x.duty(1, 51, 52);
        DUE.same("another person has its own duties", x.on(0, 51), 2);
    }

    private static void moveTakesAPersonAway() {
        StationRows x = new StationRows();
        x.station(1);
        x.station(1);
        x.station(1);
        x.person(0, 3);
        x.duty(0, 0, 30);
        x.move(0, 1, 10, 20);
        x.move(0, 2, 20, 21);
        DUE.same("home before", x.on(0, 9), 1);
        DUE.same("not home", x.on(0, 10), 0);
        DUE.same("there first", x.at(1, 10, 0), 0);
        DUE.same("there last", x.on(1, 19), 1);
        DUE.same("gone from there", x.on(1, 20), 0);
        DUE.same("at the next one", x.on(2, 20), 1);
        DUE.same("home again", x.on(0, 21), 1);
        x.move(0, 1, 25, 40);
        DUE.same("a move is no duty", x.on(1, 30), 0);
    }

    private static void moveToAStationThatIsNotThere() {
        StationRows x = new StationRows();
        x.station(1);
        x.temporary(1, 15, 20);
        x.person(0, 0);
        x.duty(0, 0, 30);
        x.move(0, 1, 10, 25);
        DUE.same("nowhere: not home", x.on(0, 12), 0);
        DUE.same("nowhere: not there", x.on(1, 12), 0);
        DUE.same("there", x.on(1, 15), 1);
        DUE.same("not there any more", x.on(1, 20), 0);
    }

    private static void moveRefuses() {
        StationRows x = new StationRows();
        x.station(1);
        x.station(1);
        DUE.unknown("no person at all", () -> x.move(0, 1, 1, 2));
        x.person(0, 0);
        x.person(0, 0);
        DUE.unknown("person 2", () -> x.move(2, 1, 1, 2));
        DUE.unknown("person -1", () -> x.move(-1, 1, 1, 2));
        DUE.unknown("station 2", () -> x.move(0, 2, 1, 2));
        DUE.unknown("station -1", () -> x.move(0, -1, 1, 2));
        DUE.unknown("station before times", () -> x.move(0, 2, 2, 1));
        DUE.outside("from -1", () -> x.move(0, 1, -1, 2));
        DUE.outside("to 100000", () -> x.move(0, 1, 1, 100000));
        DUE.outside("no minute", () -> x.move(0, 1, 2, 2));
        DUE.outside("times before home", () -> x.move(0, 0, 2, 2));
        DUE.wrongState("home", () -> x.move(0, 0, 1, 2));
        x.move(0, 1, 10, 20);
        DUE.wrongState("overlap", () -> x.move(0, 1, 19, 21));
        DUE.wrongState("round it", () -> x.move(0, 1, 5, 25));
        x.move(0, 1, 20, 21);
        x.move(0, 1, 9, 10);
        DUE.noRoom("a fourth", () -> x.move(0, 1, 30, 31));
        DUE.wrongState("overlap before room", () -> x.move(0, 1, 15, 31));
        DUE.wrongState("home before room", () -> x.move(0, 0, 30, 31));
        x.duty(0, 0, 50);
        DUE.same("the fourth was not kept", x.on(0, 30), 1);
        x.move(1, 1, 10, 20);
    }

    private static void limitKeepsFarOnesOff() {
        StationRows x = new StationRows();
        x.station(1);
        int[] distances = {0, 30, 31, 120};
        for (int p = 0; p < distances.length; p++) {
            x.person(0, distances[p]);
        }
        for (int p = 0; p < 3; p++) {
            x.duty(p, 0, 10);
        }
        DUE.same("at first 120", x.on(0, 0), 3);
        DUE.same("limit(30) counts those off duty too", x.limit(30), 2);
        DUE.same("not above the limit", x.on(0, 0), 2);
        DUE.outside("limit(-1)", () -> x.limit(-1));
        DUE.outside("limit(121)", () -> x.limit(121));
        DUE.same("a refused limit changes nothing", x.on(0, 0), 2);
        DUE.same("limit(0)", x.limit(0), 3);
        DUE.same("only distance 0", x.at(0, 0, 0), 0);
        DUE.same("only one", x.at(0, 0, 1), -1);
        DUE.same("limit(120)", x.limit(120), 0);
        DUE.same("all again", x.on(0, 0), 3);
        x.limit(5);
        x.person(0, 6);
        x.duty(4, 0, 10);
        DUE.same("a later person is beyond it too", x.on(0, 0), 1);
    }

    private static void rowIsOrdered() {
        StationRows x = new StationRows();
        x.station(1);
        x.station(1);
        int[] distances = {5, 0, 5, 2, 0, 2};
        for (int p = 0; p < distances.length; p++) {
            x.person(p == 4 ? 1 : 0, distances[p]);
            x.duty(p, 0, 10);
        }
        x.move(4, 0, 0, 5);
        int[] due = {1, 4, 3, 5, 0, 2, -1};
        for (int i = 0; i < due.length; i++) {
            DUE.same("at(0, 0, " + i + ")", x.at(0, 0, i), due[i]);
        }
        DUE.same("the moved one is home again", x.at(0, 5, 1), 3);
        DUE.same("far behind the last", x.at(0, 0, Integer.MAX_VALUE), -1);
    }

    private static void questionsRefuse() {
        StationRows x = new StationRows();
        DUE.unknown("on, no station", () -> x.on(0, 0));
        DUE.unknown("at, no station", () -> x.at(0, 0, 0));
        x.station(1);
        DUE.unknown("on, station -1", () -> x.on(-1, 0));
        DUE.unknown("on, station before minute", () -> x.on(1, -1));
        DUE.outside("on, minute -1", () -> x.on(0, -1));
        DUE.outside("on, minute 100000", () -> x.on(0, 100000));
        DUE.same("on, minute 99999", x.on(0, 99999), 0);
        DUE.unknown("at, station -1", () -> x.at(-1, 0, 0));
        DUE.unknown("at, station before i", () -> x.at(1, 0, -1));
        DUE.outside("at, minute -1", () -> x.at(0, -1, 0));
        DUE.outside("at, minute 100000", () -> x.at(0, 100000, 0));
        DUE.outside("at, i -1", () -> x.at(0, 0, -1));
        DUE.outside("at, i least", () -> x.at(0, 0, Integer.MIN_VALUE));
        DUE.same("at, nobody", x.at(0, 99999, 0), -1);
    }
}
