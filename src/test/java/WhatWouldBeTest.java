/** Promises 18 to 22 and 24: seenIn, would, best, sellAll, mean, undo. */
public final class WhatWouldBeTest {
    private static final int INVALID = CourtJotter.INVALID_ARGUMENT;
    private static final int NOT_POSSIBLE = CourtJotter.NOT_POSSIBLE;
    private static final int NOT_FOUND = CourtJotter.NOT_FOUND;
    private static final int MIN = Integer.MIN_VALUE;
    private static final int MAX = Integer.MAX_VALUE;
    private static final Check CHECK = new Check();

    private static void due(String call, long got, long want) {
        CHECK.due("what would be", call, got, want);
    }

    public static void main(String[] args) {
        promise18SeenIn();
        promise18SeenInErrors();
        promise19Would();
        promise19WouldOfHidden();
        promise19WouldChangesNothing();
        promise19WouldErrors();
        promise20Best();
        promise20BestOfSeveral();
        promise20BestNoneAndErrors();
        promise21SellAll();
        promise21SellAllOncePerPerson();
        promise21SellAllOfTen();
        promise21SellAllOnAnotherDay();
        promise22Mean();
        promise22MeanOfNothingPaid();
        promise24Undo();
        promise24UndoEachChange();
        promise24UndoOnSheets();
        promise24UndoLeavesTheText();
        CHECK.end("WhatWouldBeTest");
    }

    /** Two people, all of whom is remembered; three papers; minute 24; ink dries at once. */
    private static CourtJotter court() {
        CourtJotter x = new CourtJotter();
        x.person(0, 0);
        x.person(0, 1);
        x.turn(0, 0, 1);
        x.turn(1, 0, 1);
        x.paper(5, 100);
        x.paper(10, 200);
        x.paper(10, 299);
        x.set(0, 200);
        x.set(1, 0);
        x.look(0);
        x.pass(12);
        x.look(1);
        x.pass(12);
        return x;
    }

    private static void draw(CourtJotter x, int sheet, int least, int most) {
        for (int feature = least; feature <= most; feature++) {
            due("draw(" + sheet + ", " + feature + ")", x.draw(sheet, feature), feature - least + 1);
        }
    }

    private static void promise18SeenIn() {
        CourtJotter x = new CourtJotter();
        x.person(1, 0);
        x.turn(0, 0, 1);
        int[] inMinutes = {0, 0, 0, 1, 2, 3, 4, 5, 6, 7, 0, 0};
        for (int feature = 0; feature < 12; feature++) {
            due("seenIn(0, " + feature + ")", x.seenIn(0, feature), inMinutes[feature]);
        }
        x.person(0, 0);
        for (int feature = 0; feature < 12; feature++) {
            due("hidden: seenIn(0, " + feature + ")", x.seenIn(0, feature), feature);
        }
        x.turn(0, 1, 11);
        due("turning back: 2", x.seenIn(0, 2), 11);
        due("turning back: 0", x.seenIn(0, 0), 1);
        x.turn(0, 0, 3);
        due("step 3: 9", x.seenIn(0, 9), 3);
        due("step 3: 10", x.seenIn(0, 10), NOT_FOUND);
        due("standing: 3", x.seenIn(1, 3), NOT_FOUND);
        due("standing: 2", x.seenIn(1, 2), 0);
        due("no change", x.personOf(0, 2), 0);
        due("count(4)", x.count(4), 0);
    }

    private static void promise18SeenInErrors() {
        CourtJotter x = court();
        due("seenIn(-1, 0)", x.seenIn(-1, 0), INVALID);
        due("seenIn(2, 0)", x.seenIn(2, 0), INVALID);
        due("seenIn(0, -1)", x.seenIn(0, -1), INVALID);
        due("seenIn(0, 12)", x.seenIn(0, 12), INVALID);
        due("seenIn(0, 32)", x.seenIn(0, 32), INVALID);
        due("seenIn(MAX, MIN)", x.seenIn(MAX, MIN), INVALID);
    }

    private static void promise19Would() {
        CourtJotter x = new CourtJotter();
        x.person(0, 0);
        x.person(0, 1);
        x.turn(1, 0, 1);
        due("would(1, 0)", x.would(1, 0), 0);
        int[] seen = {5, 6, 7, 8, 9, 10, 11, 12, 12};
        for (int i = 0; i < seen.length; i++) {
            due("would(1, " + (i + 1) + ")", x.would(1, i + 1), seen[i]);
        }
        due("would(1, 300)", x.would(1, 300), 12);
        due("would(0, 300)", x.would(0, 300), 5);
        x.set(0, 1);
        due("only the last minute is kept", x.would(1, 300), 5);
        x.set(0, 3);
        due("only the last three are kept", x.would(1, 300), 7);
        x.set(0, 40);
        x.look(0);
        x.pass(4);
        due("what is remembered now", x.would(0, 0), 5);
        due("0 and another 39 minutes", x.would(0, 39), 5);
        x.turn(0, 6, 0);
        due("the old ones are kept", x.would(0, 39), 10);
        due("and forgotten", x.would(0, 40), 5);
    }

    private static void promise19WouldOfHidden() {
        CourtJotter x = new CourtJotter();
        x.person(1, 0);
        x.person(0, 0);
        x.person(1, 3);
        for (int i = 0; i < 3; i++) {
            x.turn(i, 0, 1);
        }
        due("behind: would(0, 3)", x.would(0, 3), 3);
        due("in front: would(1, 3)", x.would(1, 3), 7);
        due("another seat: would(2, 3)", x.would(2, 3), 7);
    }

    private static void promise19WouldChangesNothing() {
        CourtJotter x = court();
        x.sheet(0);
        draw(x, 0, 0, 1);
        due("would(0, 100)", x.would(0, 100), 12);
        due("count(4)", x.count(4), 24);
        due("count(7)", x.count(7), 1);
        due("count(8)", x.count(8), 1);
        due("count(11)", x.count(11), 4);
        due("personOf(0, 2)", x.personOf(0, 2), 0);
        x.set(0, 12);
        due("not seen since", x.personOf(0, 5), 0);
        for (int i = 0; i < 33; i++) {
            x.pass(300);
        }
        x.pass(60);
        due("count(4)", x.count(4), 9984);
        due("behind the last minute too", x.would(1, 300), 12);
    }

    private static void promise19WouldErrors() {
        CourtJotter x = court();
        due("would(-1, 0)", x.would(-1, 0), INVALID);
        due("would(2, 0)", x.would(2, 0), INVALID);
        due("would(0, -1)", x.would(0, -1), INVALID);
        due("would(0, 301)", x.would(0, 301), INVALID);
        due("would(MIN, MAX)", x.would(MIN, MAX), INVALID);
    }

    private static void promise20Best() {
        CourtJotter x = court();
        x.sheet(0);
        x.sheet(1);
        x.sheet(0);
        draw(x, 2, 4, 5);
        draw(x, 1, 7, 7);
        due("best(0)", x.best(0), 2);
        due("best(1)", x.best(1), 1);
        due("best(2)", x.best(2), 20);
        due("count(2)", x.count(2), 3);
        x.pass(177);
        due("above the hour of 1", x.best(1), 2);
        due("best(2)", x.best(2), 20);
        x.sell(2, 2);
        due("the other sheet", x.best(0), 1);
        due("best(1)", x.best(1), 2);
        due("best(2)", x.best(2), 10);
        x.set(1, 1);
        x.draw(1, 8);
        due("it is wet now", x.best(0), NOT_FOUND);
    }

    private static void promise20BestOfSeveral() {
        CourtJotter x = court();
        x.sheet(0);
        x.sheet(1);
        x.sheet(1);
        draw(x, 2, 0, 0);
        draw(x, 1, 0, 0);
        due("the lowest sheet", x.best(0), 1);
        due("the lowest paper of it", x.best(1), 1);
        x.sell(1, 1);
        due("not the paper that bought of 1", x.best(1), 2);
        due("best(0)", x.best(0), 2);
        x.sell(2, 2);
        x.draw(0, 0);
        due("the papers may buy of 0", x.best(1), 1);
        x.verdict(0);
        due("twice by a verdict", x.best(2), 20);
    }

    private static void promise20BestNoneAndErrors() {
        CourtJotter x = court();
        for (int what = 0; what < 3; what++) {
            due("best(" + what + ") of none", x.best(what), NOT_FOUND);
        }
        x.sheet(0);
        due("an empty sheet is not dry", x.best(2), NOT_FOUND);
        due("best(-1)", x.best(-1), INVALID);
        due("best(3)", x.best(3), INVALID);
        due("best(MIN)", x.best(MIN), INVALID);
        due("best(MAX)", x.best(MAX), INVALID);
        CourtJotter y = new CourtJotter();
        y.person(0, 0);
        y.paper(1, 1);
        y.set(1, 0);
        y.look(0);
        y.pass(2);
        y.sheet(0);
        y.draw(0, 0);
        due("a price of 0 is a sale", y.best(0), 0);
        due("a price of 0", y.best(2), 0);
        due("its paper", y.best(1), 0);
    }

    private static void promise21SellAll() {
        CourtJotter x = court();
        due("of none", x.sellAll(), 0);
        x.sheet(0);
        x.sheet(1);
        x.sheet(0);
        draw(x, 0, 0, 1);
        draw(x, 1, 0, 0);
        due("20 and 10, 2 is empty", x.sellAll(), 30);
        due("nothing is sold", x.count(2), 3);
        due("nothing is paid", x.count(10), 0);
        due("paperOf(1, 4)", x.paperOf(1, 4), 0);
        x.verdict(1);
        due("40 then", x.sellAll(), 40);
        x.set(1, 10);
        x.pass(1);
        x.draw(0, 5);
        due("0 is wet", x.sellAll(), 20);
    }

    private static void promise21SellAllOncePerPerson() {
        CourtJotter x = court();
        for (int i = 0; i < 4; i++) {
            x.sheet(0);
        }
        draw(x, 3, 0, 2);
        x.pass(1);
        draw(x, 2, 0, 1);
        draw(x, 1, 0, 0);
        x.pass(1);
        draw(x, 0, 0, 0);
        due("30, 20 and 5; no paper is left for the last", x.sellAll(), 55);
        due("sell(3, 0)", x.sell(3, 0), 15);
        due("20 and 10", x.sellAll(), 30);
        x.sell(2, 1);
        x.sell(1, 2);
        due("all papers have bought of 0", x.sellAll(), 0);
        due("count(2)", x.count(2), 1);
    }

    private static void promise21SellAllOfTen() {
        CourtJotter x = court();
        x.person(0, 2);
        x.paper(1, 299);
        x.look(2);
        x.pass(1);
        for (int i = 0; i < 10; i++) {
            x.sheet(i % 3);
            due("draw " + i, x.draw(i, 0), 1);
            x.pass(1);
        }
        due("of 0: 10, 10, 5, 1; of 1 and 2: 10, 10, 5", x.sellAll(), 76);
    }

    private static void promise21SellAllOnAnotherDay() {
        CourtJotter x = court();
        x.pass(290);
        for (int i = 0; i < 3; i++) {
            x.look(0);
            x.pass(1);
            x.sheet(0);
            draw(x, i, 1, 1);
        }
        due("10, 10 and 5", x.sellAll(), 25);
        due("sell(0, 2)", x.sell(0, 2), 10);
        due("10 and 5", x.sellAll(), 15);
        due("sell(1, 1)", x.sell(1, 1), 10);
        due("5", x.sellAll(), 5);
    }

    private static void promise22Mean() {
        CourtJotter x = court();
        due("none sold", x.mean(), NOT_FOUND);
        x.sheet(0);
        x.sheet(0);
        x.sheet(1);
        draw(x, 0, 0, 0);
        draw(x, 1, 0, 0);
        draw(x, 2, 0, 0);
        due("none sold", x.mean(), NOT_FOUND);
        x.sell(0, 0);
        due("5", x.mean(), Float.floatToIntBits(5f));
        x.sell(1, 1);
        due("15 by 2", x.mean(), Float.floatToIntBits(7.5f));
        x.sell(2, 0);
        due("20 by 3", x.mean(), Float.floatToIntBits(20f / 3f));
        x.undo();
        due("undone", x.mean(), Float.floatToIntBits(7.5f));
    }

    private static void promise22MeanOfNothingPaid() {
        CourtJotter x = new CourtJotter();
        x.person(0, 0);
        x.person(0, 1);
        x.paper(1, 1);
        x.set(1, 0);
        x.look(0);
        x.pass(2);
        x.look(1);
        x.pass(2);
        for (int i = 0; i < 3; i++) {
            x.sheet(i % 2);
        }
        draw(x, 0, 0, 0);
        draw(x, 1, 0, 1);
        due("half of 1", x.sell(0, 0), 0);
        due("0 by 1", x.mean(), 0);
        due("half of 2", x.sell(1, 0), 1);
        due("1 by 2", x.mean(), Float.floatToIntBits(0.5f));
        x.pass(300);
        x.draw(2, 0);
        due("nothing is remembered", x.sheetOf(2, 2), 0);
        x.set(0, 200);
        x.look(0);
        x.pass(1);
        draw(x, 2, 0, 0);
        due("half of 1", x.sell(2, 0), 0);
        due("1 by 3", x.mean(), Float.floatToIntBits(1f / 3f));
    }

    private static void promise24Undo() {
        CourtJotter x = new CourtJotter();
        due("nothing to undo", x.undo(), NOT_POSSIBLE);
        for (int i = 0; i < 6; i++) {
            x.person(0, i);
            due("count(11)", x.count(11), Math.min(4, i + 1));
        }
        x.person(0, 0);
        due("an error is no change", x.count(11), 4);
        for (int i = 0; i < 4; i++) {
            due("undo()", x.undo(), 3 - i);
            due("count(0)", x.count(0), 5 - i);
            due("count(11)", x.count(11), 3 - i);
        }
        due("the oldest ones are gone", x.undo(), NOT_POSSIBLE);
        due("count(0)", x.count(0), 2);
        due("person(0, 2)", x.person(0, 2), 2);
        due("undo() is no change", x.undo(), 0);
        due("undo()", x.undo(), NOT_POSSIBLE);
    }

    /** A change of its own ahead of another, so that the other's undo must come back to just here. */
    private static void mark(CourtJotter x, int value) {
        x.set(0, value);
    }

    private static void dueMark(CourtJotter x, int value) {
        due("undo() back to mark " + value, x.undo(), 3);
        due("mark " + value, x.count(20), value);
    }

    private static void promise24UndoEachChange() {
        CourtJotter x = court();
        mark(x, 190);
        x.person(3, 3);
        dueMark(x, 190);
        due("person", x.count(0), 2);
        mark(x, 191);
        x.turn(0, 5, 6);
        dueMark(x, 191);
        due("turn: angle", x.personOf(0, 2), 0);
        due("turn: step", x.personOf(0, 3), 1);
        mark(x, 192);
        x.paper(1, 1);
        dueMark(x, 192);
        due("paper", x.count(1), 3);
        mark(x, 193);
        x.look(0);
        dueMark(x, 193);
        due("look", x.count(7), 1);
        mark(x, 194);
        x.sheet(1);
        dueMark(x, 194);
        due("sheet: in the jotter", x.count(2), 0);
        due("sheet: so far", x.count(3), 0);
        mark(x, 195);
        x.verdict(0);
        dueMark(x, 195);
        due("verdict", x.personOf(0, 6), 0);
        mark(x, 196);
        x.pass(7);
        dueMark(x, 196);
        due("pass: minute", x.count(4), 24);
        due("pass: angle", x.personOf(0, 2), 0);
        mark(x, 12);
        x.pass(7);
        dueMark(x, 12);
        due("pass: what was seen", x.personOf(1, 5), 4095);
        mark(x, 197);
        x.set(0, 3);
        dueMark(x, 197);
        mark(x, 198);
        x.set(1, 3);
        dueMark(x, 198);
        due("set", x.count(21), 0);
        mark(x, 199);
        x.play();
        dueMark(x, 199);
    }

    private static void promise24UndoOnSheets() {
        CourtJotter x = court();
        x.sheet(0);
        draw(x, 0, 0, 0);
        mark(x, 190);
        x.set(1, 9);
        x.draw(0, 1);
        due("draw: undo()", x.undo(), 3);
        due("draw: features", x.sheetOf(0, 1), 1);
        due("draw: ink", x.sheetOf(0, 4), 0);
        due("draw: count(8)", x.count(8), 2);
        mark(x, 191);
        x.pass(1);
        dueMark(x, 191);
        due("pass: count(8)", x.count(8), 2);
        mark(x, 192);
        x.tear(0);
        dueMark(x, 192);
        due("tear: features", x.sheetOf(0, 1), 1);
        mark(x, 193);
        x.sell(0, 1);
        dueMark(x, 193);
        due("sell: sheets", x.count(2), 1);
        due("sell: features", x.sheetOf(0, 1), 1);
        due("sell: sold", x.count(9), 0);
        due("sell: paid", x.count(10), 0);
        due("sell: of the person", x.personOf(0, 8), 0);
        due("sell: sheets of the paper", x.paperOf(1, 2), 0);
        due("sell: paid by the paper", x.paperOf(1, 3), 0);
        due("sell: people of the paper", x.paperOf(1, 4), 0);
    }

    private static void promise24UndoLeavesTheText() {
        CourtJotter x = court();
        x.type('m');
        x.type('5');
        x.look(-1);
        x.type(';');
        due("undo()", x.undo(), 3);
        due("count(12)", x.count(12), 3);
        due("play()", x.play(), 1);
        due("count(4)", x.count(4), 29);
        x.clearText();
        due("undo()", x.undo(), 3);
        due("count(4)", x.count(4), 24);
        due("the text stays empty", x.count(12), 0);
    }
}
