/** Promises 1 to 4: a new object, person, turn, paper. */
public final class PeopleAndPapersTest {
    private static final int INVALID = CourtJotter.INVALID_ARGUMENT;
    private static final int NOT_POSSIBLE = CourtJotter.NOT_POSSIBLE;
    private static final int LIMIT = CourtJotter.LIMIT_REACHED;
    private static final int NOT_FOUND = CourtJotter.NOT_FOUND;
    private static final Check CHECK = new Check();

    private static void due(String call, long got, long want) {
        CHECK.due("people and papers", call, got, want);
    }

    public static void main(String[] args) {
        promise1NewObject();
        promise2Person();
        promise2PersonErrors();
        promise2NewcomerIsPlain();
        promise3Turn();
        promise3TurnHidden();
        promise3TurnErrors();
        promise4Paper();
        CHECK.end("PeopleAndPapersTest");
    }

    private static void promise1NewObject() {
        CourtJotter x = new CourtJotter();
        int[] first = {0, 0, 0, 0, 0, 0, 0, NOT_FOUND, 3, 0, 0, 0, 0};
        for (int what = 0; what < first.length; what++) {
            due("new count(" + what + ")", x.count(what), first[what]);
        }
        due("new count(20)", x.count(20), 40);
        due("new count(21)", x.count(21), 10);
        due("new number(0)", x.number(0), NOT_FOUND);
        due("new undo()", x.undo(), NOT_POSSIBLE);
        CourtJotter y = new CourtJotter();
        due("x.person(0, 0)", x.person(0, 0), 0);
        due("another object's count(0)", y.count(0), 0);
    }

    private static void promise2Person() {
        CourtJotter x = new CourtJotter();
        int[][] places = {{0, 0}, {3, 5}, {0, 5}, {3, 0}, {1, 2}, {2, 2}};
        for (int i = 0; i < places.length; i++) {
            due("person " + i, x.person(places[i][0], places[i][1]), i);
        }
        for (int i = 0; i < places.length; i++) {
            due("row of " + i, x.personOf(i, 0), places[i][0]);
            due("seat of " + i, x.personOf(i, 1), places[i][1]);
        }
        due("count(0)", x.count(0), 6);
        due("count(11)", x.count(11), 4);
    }

    private static void promise2PersonErrors() {
        CourtJotter x = new CourtJotter();
        due("person(-1, 0)", x.person(-1, 0), INVALID);
        due("person(4, 0)", x.person(4, 0), INVALID);
        due("person(0, -1)", x.person(0, -1), INVALID);
        due("person(0, 6)", x.person(0, 6), INVALID);
        due("person(MIN, MAX)", x.person(Integer.MIN_VALUE, Integer.MAX_VALUE), INVALID);
        due("count(0)", x.count(0), 0);
        due("count(11)", x.count(11), 0);
        for (int i = 0; i < 6; i++) {
            due("person(2, " + i + ")", x.person(2, i), i);
        }
        due("invalid ahead of the limit", x.person(4, 0), INVALID);
        due("taken ahead of the limit", x.person(2, 5), NOT_POSSIBLE);
        due("the limit", x.person(0, 0), LIMIT);
        due("count(0)", x.count(0), 6);
        due("undo()", x.undo(), 3);
        due("taken with room", x.person(2, 4), NOT_POSSIBLE);
        due("taken by the first", x.person(2, 0), NOT_POSSIBLE);
        due("the one that was undone", x.person(2, 5), 5);
    }

    private static void promise2NewcomerIsPlain() {
        CourtJotter x = new CourtJotter();
        x.person(0, 0);
        x.turn(0, 4, 3);
        x.look(0);
        x.pass(5);
        due("person(1, 1)", x.person(1, 1), 1);
        int[] plain = {1, 1, 0, 0, 3079, 0, 0, 0, 0};
        for (int what = 0; what < plain.length; what++) {
            due("newcomer " + what, x.personOf(1, what), plain[what]);
        }
        x.person(0, 1);
        due("hidden by one who came later", x.personOf(1, 4), 1);
        due("in front, so not hidden", x.personOf(2, 4), 3079);
    }

    private static void promise3Turn() {
        CourtJotter x = new CourtJotter();
        x.person(0, 3);
        int[] seen = {3079, 2063, 31, 62, 124, 248, 496, 992, 1984, 3968, 3841, 3587};
        for (int angle = 0; angle < 12; angle++) {
            due("turn(0, " + angle + ")", x.turn(0, angle, 11 - angle), seen[angle]);
            due("angle", x.personOf(0, 2), angle);
            due("step", x.personOf(0, 3), 11 - angle);
        }
        x.turn(0, 11, 11);
        x.pass(1);
        due("11 and 11 on", x.personOf(0, 2), 10);
        x.pass(300);
        due("300 more minutes", x.personOf(0, 2), 10);
        x.pass(7);
        due("7 more minutes", x.personOf(0, 2), 3);
        due("the step stays", x.personOf(0, 3), 11);
    }

    private static void promise3TurnHidden() {
        CourtJotter x = new CourtJotter();
        x.person(2, 3);
        x.person(3, 3);
        x.person(3, 4);
        due("in front", x.turn(0, 7, 0), 992);
        due("behind", x.turn(1, 7, 0), 128);
        due("another seat", x.turn(2, 7, 0), 992);
        x.person(1, 3);
        due("behind a newcomer", x.turn(0, 7, 0), 128);
        due("the newcomer", x.turn(3, 7, 0), 992);
    }

    private static void promise3TurnErrors() {
        CourtJotter x = new CourtJotter();
        due("nobody there", x.turn(0, 0, 0), INVALID);
        x.person(0, 0);
        x.turn(0, 5, 6);
        due("turn(-1, 0, 0)", x.turn(-1, 0, 0), INVALID);
        due("turn(1, 0, 0)", x.turn(1, 0, 0), INVALID);
        due("turn(6, 0, 0)", x.turn(6, 0, 0), INVALID);
        due("turn(0, -1, 0)", x.turn(0, -1, 0), INVALID);
        due("turn(0, 12, 0)", x.turn(0, 12, 0), INVALID);
        due("turn(0, 0, -1)", x.turn(0, 0, -1), INVALID);
        due("turn(0, 0, 12)", x.turn(0, 0, 12), INVALID);
        due("turn(MAX, MIN, MIN)",
                x.turn(Integer.MAX_VALUE, Integer.MIN_VALUE, Integer.MIN_VALUE), INVALID);
        due("angle", x.personOf(0, 2), 5);
        due("step", x.personOf(0, 3), 6);
        due("count(11)", x.count(11), 2);
    }

    private static void promise4Paper() {
        CourtJotter x = new CourtJotter();
        due("paper(0, 1)", x.paper(0, 1), INVALID);
        due("paper(21, 1)", x.paper(21, 1), INVALID);
        due("paper(1, 0)", x.paper(1, 0), INVALID);
        due("paper(1, 300)", x.paper(1, 300), INVALID);
        due("paper(MIN, MIN)", x.paper(Integer.MIN_VALUE, Integer.MIN_VALUE), INVALID);
        due("count(1)", x.count(1), 0);
        due("count(11)", x.count(11), 0);
        due("paper(1, 1)", x.paper(1, 1), 0);
        due("paper(20, 299)", x.paper(20, 299), 1);
        due("paper(20, 299) again", x.paper(20, 299), 2);
        due("paper(7, 150)", x.paper(7, 150), 3);
        due("the limit", x.paper(1, 1), LIMIT);
        due("invalid ahead of the limit", x.paper(0, 1), INVALID);
        due("count(1)", x.count(1), 4);
        due("rate of 3", x.paperOf(3, 0), 7);
        due("hour of 3", x.paperOf(3, 1), 150);
    }
}
