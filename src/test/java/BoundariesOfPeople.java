/** Promises 1 to 4: a new object, person, turn, paper. */
final class BoundariesOfPeople extends Boundaries {
    BoundariesOfPeople(Sentences sentences) {
        super(sentences);
    }

    @Override
    void run() {
        promise1CreatesAnEmptyCourt();
        promise2Row0To3();
        promise2Seat0To5();
        promise2ReturnsTheNumber();
        promise2InvalidIfOutOfRange();
        promise2NotPossibleIfSomebodyIsThere();
        promise2LimitIfThereAreSix();
        promise3NumberOfThePerson();
        promise3Angle0To11();
        promise3Step0To11();
        promise3ReturnsTheFeaturesSeenThen();
        promise3InvalidIfOutOfRange();
        promise4Rate1To20();
        promise4Hour1To299();
        promise4ReturnsItsNumber();
        promise4InvalidIfOutOfRange();
        promise4LimitIfThereAreFour();
    }

    // ---- Promise 1

    private void promise1CreatesAnEmptyCourt() {
        says("Promise 1", "`CourtJotter()`: Creates an empty court.");
        CourtJotter x = new CourtJotter();
        int[] counts = {0, 0, 0, 0, 0, 0, 0, NOT_FOUND, 3, 0, 0, 0, 0};
        for (int what = 0; what < counts.length; what++) {
            due("count(" + what + ")", x.count(what), counts[what]);
        }
        due("personOf(0, 0)", x.personOf(0, 0), INVALID);
        due("sheetOf(0, 0)", x.sheetOf(0, 0), INVALID);
        due("paperOf(0, 0)", x.paperOf(0, 0), INVALID);
        due("price(0, 0)", x.price(0, 0), INVALID);
        due("number(0)", x.number(0), NOT_FOUND);
        due("seenIn(0, 0)", x.seenIn(0, 0), INVALID);
        due("would(0, 0)", x.would(0, 0), INVALID);
        due("best(0)", x.best(0), NOT_FOUND);
        due("sellAll()", x.sellAll(), 0);
        due("mean()", x.mean(), NOT_FOUND);
        due("fault(0)", x.fault(0), NOT_FOUND);
        due("clearText()", x.clearText(), 0);
        due("undo()", x.undo(), NOT_POSSIBLE);
        due("pass(300)", x.pass(300), 0);
    }

    // ---- Promise 2

    private void promise2Row0To3() {
        says("Promise 2", "- `row`: 0 to 3");
        range("row", 0, 3, row -> new CourtJotter().person(row, 0));
    }

    private void promise2Seat0To5() {
        says("Promise 2", "- `seat`: 0 to 5");
        range("seat", 0, 5, seat -> new CourtJotter().person(0, seat));
    }

    private void promise2ReturnsTheNumber() {
        says("Promise 2", "Returns the number");
        CourtJotter x = new CourtJotter();
        due("the first", x.person(3, 5), 0);
        due("a refused one takes no number", x.person(3, 5), NOT_POSSIBLE);
        due("the second", x.person(0, 0), 1);
        x.undo();
        due("the second once more", x.person(1, 1), 1);
        for (int i = 2; i < 6; i++) {
            due("person " + i, x.person(2, i), i);
        }
    }

    private void promise2InvalidIfOutOfRange() {
        says("Promise 2", "INVALID_ARGUMENT if an argument is out of range");
        CourtJotter x = one();
        due("person(-1, 0)", x.person(-1, 0), INVALID);
        due("person(4, 0)", x.person(4, 0), INVALID);
        due("person(0, -1)", x.person(0, -1), INVALID);
        due("person(0, 6)", x.person(0, 6), INVALID);
        due("person(4, 6)", x.person(4, 6), INVALID);
        due("person(MAX, MIN)", x.person(MAX, MIN), INVALID);
        due("nobody came", x.count(0), 1);
    }

    private void promise2NotPossibleIfSomebodyIsThere() {
        says("Promise 2", "NOT_POSSIBLE if somebody is there");
        CourtJotter x = new CourtJotter();
        x.person(1, 2);
        due("the very place", x.person(1, 2), NOT_POSSIBLE);
        due("row and seat exchanged", x.person(2, 1), 1);
        due("the row ahead", x.person(0, 2), 2);
        due("the seat beside", x.person(1, 3), 3);
        due("the first one's place", x.person(1, 2), NOT_POSSIBLE);
        due("the last one's place", x.person(1, 3), NOT_POSSIBLE);
        x.undo();
        due("a place that was left by undo()", x.person(1, 3), 3);
    }

    private void promise2LimitIfThereAreSix() {
        says("Promise 2", "LIMIT_REACHED if there are 6.");
        CourtJotter x = new CourtJotter();
        for (int i = 0; i < 5; i++) {
            x.person(0, i);
        }
        due("the sixth", x.person(0, 5), 5);
        due("a seventh", x.person(1, 0), LIMIT);
        due("a seventh again", x.person(3, 5), LIMIT);
        due("six are there", x.count(0), 6);
        x.undo();
        due("with five again", x.person(1, 0), 5);
    }

    // ---- Promise 3

    private void promise3NumberOfThePerson() {
        says("Promise 3", "- `person`: number of the person");
        range("one person", 0, 0, person -> one().turn(person, 0, 0));
        range("six people", 0, 5, person -> six().turn(person, 0, 0));
        due("nobody", new CourtJotter().turn(0, 0, 0), INVALID);
    }

    private static CourtJotter six() {
        CourtJotter x = new CourtJotter();
        for (int i = 0; i < 6; i++) {
            x.person(0, i);
        }
        return x;
    }

    private void promise3Angle0To11() {
        says("Promise 3", "- `angle`: 0 to 11");
        range("angle", 0, 11, angle -> one().turn(0, angle, 0));
    }

    private void promise3Step0To11() {
        says("Promise 3", "- `step`: 0 to 11");
        range("step", 0, 11, step -> one().turn(0, 0, step));
    }

    private void promise3ReturnsTheFeaturesSeenThen() {
        says("Promise 3", "Returns the features that are seen then, as a set");
        CourtJotter x = one();
        x.person(1, 0);
        due("by the new angle", x.turn(0, 6, 5), 16 + 32 + 64 + 128 + 256);
        due("around 11", x.turn(0, 11, 5), 512 + 1024 + 2048 + 1 + 2);
        due("around 0", x.turn(0, 0, 5), 1024 + 2048 + 1 + 2 + 4);
        due("hidden", x.turn(1, 11, 0), 2048);
    }

    private void promise3InvalidIfOutOfRange() {
        says("Promise 3", "INVALID_ARGUMENT if an argument is out of range.");
        CourtJotter x = one();
        x.turn(0, 5, 7);
        due("turn(1, 0, 0)", x.turn(1, 0, 0), INVALID);
        due("turn(-1, 0, 0)", x.turn(-1, 0, 0), INVALID);
        due("turn(0, 12, 0)", x.turn(0, 12, 0), INVALID);
        due("turn(0, -1, 0)", x.turn(0, -1, 0), INVALID);
        due("turn(0, 0, 12)", x.turn(0, 0, 12), INVALID);
        due("turn(0, 0, -1)", x.turn(0, 0, -1), INVALID);
        due("turn(MAX, MIN, MAX)", x.turn(MAX, MIN, MAX), INVALID);
        due("the angle stays", x.personOf(0, 2), 5);
        due("the step stays", x.personOf(0, 3), 7);
    }

    // ---- Promise 4

    private void promise4Rate1To20() {
        says("Promise 4", "- `rate`: 1 to 20");
        range("rate", 1, 20, rate -> new CourtJotter().paper(rate, 150));
    }

    private void promise4Hour1To299() {
        says("Promise 4", "- `hour`: 1 to 299");
        range("hour", 1, 299, hour -> new CourtJotter().paper(10, hour));
    }

    private void promise4ReturnsItsNumber() {
        says("Promise 4", "Returns its number");
        CourtJotter x = new CourtJotter();
        due("the first", x.paper(20, 299), 0);
        due("a refused one takes no number", x.paper(21, 299), INVALID);
        due("the same once more", x.paper(20, 299), 1);
        due("the third", x.paper(1, 1), 2);
        due("the fourth", x.paper(1, 1), 3);
    }

    private void promise4InvalidIfOutOfRange() {
        says("Promise 4", "INVALID_ARGUMENT if an argument is out of range");
        CourtJotter x = new CourtJotter();
        due("paper(0, 1)", x.paper(0, 1), INVALID);
        due("paper(21, 1)", x.paper(21, 1), INVALID);
        due("paper(1, 0)", x.paper(1, 0), INVALID);
        due("paper(1, 300)", x.paper(1, 300), INVALID);
        due("paper(MIN, MAX)", x.paper(MIN, MAX), INVALID);
        due("no paper came", x.count(1), 0);
    }

    private void promise4LimitIfThereAreFour() {
        says("Promise 4", "LIMIT_REACHED if there are 4.");
        CourtJotter x = new CourtJotter();
        for (int i = 0; i < 3; i++) {
            x.paper(1, 1);
        }
        due("the fourth", x.paper(2, 2), 3);
        due("a fifth", x.paper(1, 1), LIMIT);
        due("four are there", x.count(1), 4);
        x.undo();
        due("with three again", x.paper(3, 3), 3);
    }
}
