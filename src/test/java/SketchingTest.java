/** Promises 5 to 12: look, sheet, draw, tear, verdict, sell, pass, set. */
public final class SketchingTest {
    private static final int INVALID = CourtJotter.INVALID_ARGUMENT;
    private static final int NOT_POSSIBLE = CourtJotter.NOT_POSSIBLE;
    private static final int LIMIT = CourtJotter.LIMIT_REACHED;
    private static final int NOT_FOUND = CourtJotter.NOT_FOUND;
    private static final int MIN = Integer.MIN_VALUE;
    private static final int MAX = Integer.MAX_VALUE;
    private static final Check CHECK = new Check();

    private static void due(String call, long got, long want) {
        CHECK.due("sketching", call, got, want);
    }

    public static void main(String[] args) {
        promise5Look();
        promise5LookErrors();
        promise6Sheet();
        promise6NoNumberComesAgain();
        promise7Draw();
        promise7DrawErrors();
        promise7ThreeInAMinute();
        promise7InkDries();
        promise8Tear();
        promise9Verdict();
        promise10Sell();
        promise10SellOncePerPersonAndDay();
        promise10SellErrors();
        promise11Pass();
        promise11PassRemembers();
        promise11PassOfAll();
        promise11PassLimit();
        promise12Set();
        promise12SetKeepsWetInk();
        CHECK.end("SketchingTest");
    }

    /** A court with one person, all of whom is remembered, and a paper; minute 12, ink dries at once. */
    private static CourtJotter court() {
        CourtJotter x = new CourtJotter();
        x.person(0, 0);
        x.turn(0, 0, 1);
        x.set(0, 200);
        x.set(1, 0);
        x.paper(10, 100);
        x.look(0);
        x.pass(12);
        return x;
    }

    private static void promise5Look() {
        CourtJotter x = new CourtJotter();
        x.person(1, 1);
        x.person(2, 1);
        x.turn(1, 4, 0);
        due("look(0)", x.look(0), 3079);
        due("count(7)", x.count(7), 0);
        due("look(1), who is hidden", x.look(1), 16);
        due("count(7)", x.count(7), 1);
        due("pass(1)", x.pass(1), 1);
        due("0 was not looked at", x.personOf(0, 5), 0);
        due("1 was", x.personOf(1, 5), 16);
        x.turn(0, 6, 5);
        due("look(0) ahead of turning", x.look(0), 496);
        due("look(-1)", x.look(-1), 0);
        due("count(7)", x.count(7), NOT_FOUND);
        due("nobody again is a change", x.look(-1), 0);
        due("undo()", x.undo(), 3);
        due("count(7)", x.count(7), NOT_FOUND);
        due("undo()", x.undo(), 2);
        due("count(7)", x.count(7), 0);
    }

    private static void promise5LookErrors() {
        CourtJotter x = new CourtJotter();
        due("look(0) at nobody", x.look(0), INVALID);
        due("look(-1)", x.look(-1), 0);
        x.person(0, 0);
        x.look(0);
        due("look(-2)", x.look(-2), INVALID);
        due("look(1)", x.look(1), INVALID);
        due("look(MIN)", x.look(MIN), INVALID);
        due("look(MAX)", x.look(MAX), INVALID);
        due("still looked at", x.count(7), 0);
        due("count(11)", x.count(11), 3);
    }

    private static void promise6Sheet() {
        CourtJotter x = new CourtJotter();
        due("sheet(0) of nobody", x.sheet(0), INVALID);
        x.person(0, 0);
        x.person(0, 1);
        due("sheet(-1)", x.sheet(-1), INVALID);
        due("sheet(2)", x.sheet(2), INVALID);
        due("sheet(MAX)", x.sheet(MAX), INVALID);
        for (int i = 0; i < 10; i++) {
            due("sheet " + i, x.sheet(i % 2), i);
        }
        due("sheet 10", x.sheet(0), LIMIT);
        due("invalid ahead of the limit", x.sheet(2), INVALID);
        due("count(2)", x.count(2), 10);
        due("count(3)", x.count(3), 10);
        due("person of 7", x.sheetOf(7, 0), 1);
        due("nothing drawn", x.sheetOf(7, 1), 0);
    }

    private static void promise6NoNumberComesAgain() {
        CourtJotter x = court();
        x.set(1, 30);
        due("sheet", x.sheet(0), 0);
        due("draw(0, 0)", x.draw(0, 0), 1);
        due("tear(0)", x.tear(0), 0);
        due("next sheet", x.sheet(0), 1);
        due("nothing drawn on it", x.sheetOf(1, 1), 0);
        due("no ink on it", x.sheetOf(1, 4), 0);
        x.set(1, 0);
        x.draw(1, 0);
        due("none of the other's ink", x.sheetOf(1, 4), 0);
        due("sheet", x.sheet(0), 2);
        due("undo()", x.undo(), 3);
        due("it was not begun", x.sheet(0), 2);
    }

    private static void promise7Draw() {
        CourtJotter x = new CourtJotter();
        x.person(0, 0);
        x.sheet(0);
        x.sheet(0);
        due("not remembered yet", x.draw(0, 0), NOT_POSSIBLE);
        x.look(0);
        due("seen is not remembered", x.draw(0, 0), NOT_POSSIBLE);
        x.pass(1);
        due("draw(0, 10)", x.draw(0, 10), 1);
        due("draw(0, 2)", x.draw(0, 2), 2);
        due("the same on another sheet", x.draw(1, 10), 1);
        due("set of 0", x.sheetOf(0, 1), 1028);
        due("set of 1", x.sheetOf(1, 1), 1024);
        x.look(-1);
        x.pass(39);
        due("40 minutes ago", x.draw(0, 0), 3);
        x.pass(1);
        due("41 minutes ago", x.draw(0, 1), NOT_POSSIBLE);
        x.set(0, 41);
        due("41 are remembered now", x.draw(0, 1), 4);
    }

    private static void promise7DrawErrors() {
        CourtJotter x = court();
        due("draw(0, 0) on none", x.draw(0, 0), INVALID);
        x.sheet(0);
        due("draw(-1, 0)", x.draw(-1, 0), INVALID);
        due("draw(1, 0)", x.draw(1, 0), INVALID);
        due("draw(0, -1)", x.draw(0, -1), INVALID);
        due("draw(0, 12)", x.draw(0, 12), INVALID);
        due("draw(0, 32)", x.draw(0, 32), INVALID);
        due("draw(MAX, MIN)", x.draw(MAX, MIN), INVALID);
        due("draw(0, 0)", x.draw(0, 0), 1);
        due("drawn already", x.draw(0, 0), NOT_POSSIBLE);
        due("count(8)", x.count(8), 2);
        due("count(11)", x.count(11), 4);
        due("draw(0, 1)", x.draw(0, 1), 2);
        due("draw(0, 2)", x.draw(0, 2), 3);
        due("drawn ahead of the limit", x.draw(0, 2), NOT_POSSIBLE);
        due("invalid ahead of the limit", x.draw(0, 12), INVALID);
        due("the limit", x.draw(0, 3), LIMIT);
        x.look(-1);
        x.set(0, 1);
        x.pass(2);
        x.set(0, 200);
        x.draw(0, 3);
        x.draw(0, 4);
        x.draw(0, 5);
        x.set(0, 1);
        due("not remembered ahead of the limit", x.draw(0, 6), NOT_POSSIBLE);
    }

    private static void promise7ThreeInAMinute() {
        CourtJotter x = court();
        x.sheet(0);
        x.sheet(0);
        due("count(8)", x.count(8), 3);
        x.draw(0, 0);
        x.draw(1, 0);
        x.draw(0, 1);
        due("count(8)", x.count(8), 0);
        due("fourth", x.draw(1, 1), LIMIT);
        x.tear(0);
        due("tearing helps nothing", x.draw(1, 1), LIMIT);
        x.pass(1);
        due("count(8)", x.count(8), 3);
        due("next minute", x.draw(1, 1), 2);
    }

    private static void promise7InkDries() {
        CourtJotter x = court();
        x.set(1, 5);
        x.sheet(0);
        due("an empty sheet is not dry", x.sheetOf(0, 3), 0);
        x.draw(0, 0);
        due("wet for", x.sheetOf(0, 4), 5);
        x.pass(4);
        due("wet for", x.sheetOf(0, 4), 1);
        due("dry", x.sheetOf(0, 3), 0);
        x.pass(1);
        due("wet for", x.sheetOf(0, 4), 0);
        due("dry", x.sheetOf(0, 3), 1);
        x.draw(0, 1);
        due("wet again", x.sheetOf(0, 3), 0);
        due("wet for", x.sheetOf(0, 4), 5);
        x.set(1, 0);
        x.sheet(0);
        x.draw(1, 0);
        due("dry at once", x.sheetOf(1, 3), 1);
    }

    private static void promise8Tear() {
        CourtJotter x = court();
        due("tear(0) of none", x.tear(0), INVALID);
        x.sheet(0);
        x.sheet(0);
        x.sheet(0);
        x.draw(0, 0);
        x.set(1, 7);
        x.draw(2, 5);
        due("tear(3)", x.tear(3), INVALID);
        due("tear(-1)", x.tear(-1), INVALID);
        due("tear(MIN)", x.tear(MIN), INVALID);
        due("tear(1)", x.tear(1), 2);
        due("tear(1) again", x.tear(1), INVALID);
        due("number(0)", x.number(0), 0);
        due("number(1)", x.number(1), 2);
        due("0 keeps its features", x.sheetOf(0, 1), 1);
        due("2 keeps its features", x.sheetOf(2, 1), 32);
        due("2 keeps its ink", x.sheetOf(2, 4), 7);
        due("0 keeps its ink", x.sheetOf(0, 4), 0);
        due("tear(0)", x.tear(0), 1);
        due("tear(2)", x.tear(2), 0);
        due("count(9): torn is not sold", x.count(9), 0);
        due("count(3)", x.count(3), 3);
    }

    private static void promise9Verdict() {
        CourtJotter x = new CourtJotter();
        due("verdict(0) of nobody", x.verdict(0), INVALID);
        x.person(0, 0);
        x.person(0, 1);
        x.sheet(0);
        x.sheet(1);
        x.sheet(1);
        due("verdict(-1)", x.verdict(-1), INVALID);
        due("verdict(2)", x.verdict(2), INVALID);
        x.pass(299);
        due("verdict(1)", x.verdict(1), 2);
        due("verdict(1) again", x.verdict(1), NOT_POSSIBLE);
        due("personOf(1, 6)", x.personOf(1, 6), 1);
        due("personOf(0, 6)", x.personOf(0, 6), 0);
        due("verdict(0)", x.verdict(0), 1);
        x.pass(1);
        due("the day is over", x.personOf(1, 6), 0);
        due("verdict(1) next day", x.verdict(1), 2);
        x.pass(299);
        due("holds to the end of the day", x.personOf(1, 6), 1);
        due("not again in it", x.verdict(1), NOT_POSSIBLE);
        due("the other has none", x.personOf(0, 6), 0);
    }

    private static void promise10Sell() {
        CourtJotter x = court();
        x.paper(3, 50);
        x.sheet(0);
        x.sheet(0);
        x.draw(0, 0);
        x.draw(0, 1);
        x.draw(1, 2);
        due("sell(0, 0)", x.sell(0, 0), 20);
        due("out of the jotter", x.sheetOf(0, 0), INVALID);
        due("count(2)", x.count(2), 1);
        due("count(9)", x.count(9), 1);
        due("count(10)", x.count(10), 20);
        due("personOf(0, 8)", x.personOf(0, 8), 20);
        due("paperOf(0, 2)", x.paperOf(0, 2), 1);
        due("paperOf(0, 3)", x.paperOf(0, 3), 20);
        due("paperOf(0, 4)", x.paperOf(0, 4), 1);
        due("paperOf(1, 4)", x.paperOf(1, 4), 0);
        x.verdict(0);
        x.pass(60);
        due("twice, and half of that", x.sell(1, 1), 3);
        due("personOf(0, 8)", x.personOf(0, 8), 23);
        due("count(10)", x.count(10), 23);
        due("paperOf(1, 3)", x.paperOf(1, 3), 3);
    }

    private static void promise10SellOncePerPersonAndDay() {
        CourtJotter x = court();
        x.person(0, 1);
        x.paper(10, 100);
        x.look(1);
        x.pass(1);
        for (int i = 0; i < 3; i++) {
            x.sheet(0);
            x.draw(i, 0);
        }
        x.pass(1);
        x.sheet(1);
        x.draw(3, 0);
        due("sell(0, 0)", x.sell(0, 0), 10);
        due("the same person", x.sell(1, 0), NOT_POSSIBLE);
        due("another person", x.sell(3, 0), 10);
        due("both", x.paperOf(0, 4), 3);
        due("another paper", x.sell(1, 1), 10);
        x.pass(285);
        due("last minute of the day", x.count(6), 299);
        due("still this day", x.sell(2, 0), NOT_POSSIBLE);
        x.pass(1);
        due("another day", x.paperOf(0, 4), 0);
        x.sheet(0);
        x.set(0, 200);
        x.look(0);
        x.pass(12);
        x.draw(4, 0);
        x.draw(4, 1);
        due("sold on the other day", x.sell(2, 0), 10);
        due("0 of that day", x.paperOf(0, 4), 1);
        due("not again in it", x.sell(4, 0), NOT_POSSIBLE);
        due("undo()", x.undo(), 3);
        due("nobody on that day", x.paperOf(0, 4), 0);
        due("another one in its stead", x.sell(4, 0), 20);
        due("the first then not", x.sell(2, 0), NOT_POSSIBLE);
        due("paperOf(0, 2)", x.paperOf(0, 2), 3);
    }

    private static void promise10SellErrors() {
        CourtJotter x = court();
        x.set(1, 2);
        x.sheet(0);
        due("sell(1, 0)", x.sell(1, 0), INVALID);
        due("sell(-1, 0)", x.sell(-1, 0), INVALID);
        due("sell(0, 1)", x.sell(0, 1), INVALID);
        due("sell(0, -1)", x.sell(0, -1), INVALID);
        due("sell(MAX, MAX)", x.sell(MAX, MAX), INVALID);
        due("an empty sheet", x.sell(0, 0), NOT_POSSIBLE);
        x.draw(0, 0);
        due("wet ink", x.sell(0, 0), NOT_POSSIBLE);
        x.pass(1);
        due("wet ink still", x.sell(0, 0), NOT_POSSIBLE);
        due("count(11)", x.count(11), 4);
        x.pass(1);
        due("dry", x.sell(0, 0), 10);
        due("sold already", x.sell(0, 0), INVALID);
    }

    private static void promise11Pass() {
        CourtJotter x = new CourtJotter();
        due("pass(0)", x.pass(0), INVALID);
        due("pass(301)", x.pass(301), INVALID);
        due("pass(-1)", x.pass(-1), INVALID);
        due("pass(MIN)", x.pass(MIN), INVALID);
        due("pass(MAX)", x.pass(MAX), INVALID);
        due("count(4)", x.count(4), 0);
        due("nothing is remembered", x.pass(300), 0);
        due("count(4)", x.count(4), 300);
        due("count(5)", x.count(5), 1);
        due("count(6)", x.count(6), 0);
        due("pass(1)", x.pass(1), 0);
        due("count(6)", x.count(6), 1);
    }

    private static void promise11PassRemembers() {
        CourtJotter x = new CourtJotter();
        x.person(0, 0);
        x.person(1, 0);
        x.turn(0, 0, 5);
        x.turn(1, 3, 2);
        x.look(1);
        due("the angle ahead of turning", x.pass(1), 1);
        due("personOf(1, 5)", x.personOf(1, 5), 8);
        due("personOf(1, 2)", x.personOf(1, 2), 5);
        due("0 turns too", x.personOf(0, 2), 5);
        x.look(0);
        due("those of both", x.pass(1), 6);
        due("personOf(0, 5)", x.personOf(0, 5), 248);
        x.look(-1);
        due("38 more", x.pass(38), 6);
        due("0 a minute later than 1", x.pass(1), 5);
        due("personOf(1, 5)", x.personOf(1, 5), 0);
        due("forgotten all", x.pass(1), 0);
        x.set(0, 42);
        due("seen when it was", x.personOf(0, 5), 248);
        due("seen when it was", x.personOf(1, 5), 8);
        x.look(0);
        x.set(0, 1);
        due("only the last minute", x.pass(300), 5);
        due("the last one, of angle 1", x.personOf(0, 5), 2063);
        x.set(0, 2);
        due("and that ahead, of angle 8", x.personOf(0, 5), 4047);
        x.set(0, 3);
        due("and that ahead, of angle 3", x.personOf(0, 5), 4095);
    }

    private static void promise11PassOfAll() {
        CourtJotter x = new CourtJotter();
        for (int i = 0; i < 6; i++) {
            x.person(i % 4, i / 2);
            x.turn(i, i, i + 1);
            x.look(i);
            x.pass(1);
        }
        due("three are seen whole, three are hidden", x.pass(1), 3 * 5 + 3 + 1);
        int[] angles = {7, 1, 5, 7, 7, 5};
        for (int i = 0; i < 6; i++) {
            due("angle of " + i, x.personOf(i, 2), angles[i]);
        }
    }

    private static void promise11PassLimit() {
        CourtJotter x = new CourtJotter();
        for (int i = 0; i < 33; i++) {
            due("pass(300)", x.pass(300), 0);
        }
        due("count(4)", x.count(4), 9900);
        due("pass(100)", x.pass(100), LIMIT);
        due("invalid ahead of the limit", x.pass(301), INVALID);
        due("pass(98)", x.pass(98), 0);
        due("pass(2)", x.pass(2), LIMIT);
        due("pass(1)", x.pass(1), 0);
        due("count(4)", x.count(4), 9999);
        due("count(5)", x.count(5), 33);
        due("count(6)", x.count(6), 99);
        due("pass(1)", x.pass(1), LIMIT);
        due("count(11)", x.count(11), 4);
    }

    private static void promise12Set() {
        CourtJotter x = new CourtJotter();
        due("set(0, 1)", x.set(0, 1), 40);
        due("set(0, 200)", x.set(0, 200), 1);
        due("set(1, 0)", x.set(1, 0), 10);
        due("set(1, 60)", x.set(1, 60), 0);
        due("set(0, 0)", x.set(0, 0), INVALID);
        due("set(0, 201)", x.set(0, 201), INVALID);
        due("set(1, -1)", x.set(1, -1), INVALID);
        due("set(1, 61)", x.set(1, 61), INVALID);
        due("set(-1, 5)", x.set(-1, 5), INVALID);
        due("set(2, 5)", x.set(2, 5), INVALID);
        due("set(MAX, 5)", x.set(MAX, 5), INVALID);
        due("count(20)", x.count(20), 200);
        due("count(21)", x.count(21), 60);
        due("count(11)", x.count(11), 4);
        due("undo()", x.undo(), 3);
        due("count(21)", x.count(21), 0);
    }

    private static void promise12SetKeepsWetInk() {
        CourtJotter x = court();
        x.set(1, 20);
        x.sheet(0);
        x.draw(0, 0);
        x.set(1, 0);
        due("wet as long as it was to", x.sheetOf(0, 4), 20);
        x.draw(0, 1);
        due("the longer of both", x.sheetOf(0, 4), 20);
        x.pass(10);
        x.set(1, 60);
        due("longer for no ink that is there", x.sheetOf(0, 4), 10);
        x.draw(0, 2);
        due("longer for new ink", x.sheetOf(0, 4), 60);
    }
}
