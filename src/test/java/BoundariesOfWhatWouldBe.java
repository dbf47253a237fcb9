/** Promises 18 to 22: seenIn, would, best, sellAll, mean. */
final class BoundariesOfWhatWouldBe extends Boundaries {
    BoundariesOfWhatWouldBe(Sentences sentences) {
        super(sentences);
    }

    @Override
    void run() {
        promise18();
        promise19();
        promise20();
        promise21();
        promise22();
    }

    private void promise18() {
        promise18IfEverybodyGoesOnTurning();
        promise18NumberOfThePerson();
        promise18Feature0To11();
        promise18ReturnsHowMany0IfItIsSeenNow();
        promise18InvalidIfOutOfRange();
        promise18NotFoundIfItNeverIs();
    }

    private void promise19() {
        promise19BehindSomeMinutesIfLookedAtFromNowOn();
        promise19NumberOfThePerson();
        promise19Minutes0To300();
        promise19ReturnsHowMany();
        promise19InvalidIfOutOfRange();
    }

    private void promise20() {
        promise20OfSeveralTheLowestSheetThenPaper();
        promise20BestSaleThatIsPossibleNow();
        promise20What0To2();
        promise20InvalidIfOutOfRange();
        promise20NotFoundIfThereIsNone();
    }

    private void promise21() {
        promise21AgainAndAgainAsLongAsThereIsOne();
        promise21ReturnsHowMuch();
    }

    private void promise22() {
        promise22PaidDividedByHowManyAsFloats();
        promise22ReturnsTheBitsOfTheFloat();
        promise22NotFoundIfNoneWasSold();
    }

    // ---- Promise 18

    private void promise18IfEverybodyGoesOnTurning() {
        says("Promise 18", "Tells in how many minutes a feature of a person would be seen, if everybody goes on "
                + "turning.");
        CourtJotter x = one();
        x.person(1, 0);
        x.turn(1, 1, 11);
        due("hidden, back by one: 1", x.seenIn(1, 1), 0);
        due("hidden, back by one: 0", x.seenIn(1, 0), 1);
        due("hidden, back by one: 11", x.seenIn(1, 11), 2);
        due("hidden, back by one: 2 is the last", x.seenIn(1, 2), 11);
        x.turn(1, 0, 7);
        due("hidden, by seven: 5 is the last", x.seenIn(1, 5), 11);
        x.turn(0, 9, 1);
        due("in front, from 9 on: 11", x.seenIn(0, 11), 0);
        due("in front, from 9 on: 0", x.seenIn(0, 0), 1);
        due("in front, from 9 on: 6 is the last", x.seenIn(0, 6), 7);
        passTo(x, 9999);
        due("in the last minute too, from 0 on: 3", x.seenIn(0, 3), 1);
    }

    private void promise18NumberOfThePerson() {
        says("Promise 18", "- `person`: number of the person");
        range("one person", 0, 0, person -> one().seenIn(person, 0));
    }

    private void promise18Feature0To11() {
        says("Promise 18", "- `feature`: 0 to 11");
        range("feature", 0, 11, feature -> one().seenIn(0, feature));
    }

    private void promise18ReturnsHowMany0IfItIsSeenNow() {
        says("Promise 18", "Returns how many, 0 if it is seen now");
        CourtJotter x = one();
        x.turn(0, 0, 1);
        for (int feature : new int[] {10, 11, 0, 1, 2}) {
            due("seen now: " + feature, x.seenIn(0, feature), 0);
        }
        due("the first one not seen now", x.seenIn(0, 3), 1);
        due("the last one", x.seenIn(0, 9), 7);
        CourtJotter standing = one();
        due("seen now, and standing", standing.seenIn(0, 2), 0);
    }

    private void promise18InvalidIfOutOfRange() {
        says("Promise 18", "INVALID_ARGUMENT if an argument is out of range");
        CourtJotter x = one();
        int[][] none = {{1, 0}, {-1, 0}, {0, -1}, {0, 12}, {0, 32}, {MIN, MAX}, {MAX, MIN}};
        for (int[] call : none) {
            due("seenIn(" + call[0] + ", " + call[1] + ")", x.seenIn(call[0], call[1]), INVALID);
        }
    }

    private void promise18NotFoundIfItNeverIs() {
        says("Promise 18", "NOT_FOUND if it never is.");
        CourtJotter x = one();
        x.person(1, 0);
        due("standing: just above", x.seenIn(0, 3), NOT_FOUND);
        due("standing: just below", x.seenIn(0, 9), NOT_FOUND);
        due("standing and hidden", x.seenIn(1, 1), NOT_FOUND);
        x.turn(1, 0, 2);
        due("hidden, by two: 10 is the last", x.seenIn(1, 10), 5);
        due("hidden, by two: 11", x.seenIn(1, 11), NOT_FOUND);
        x.turn(0, 0, 6);
        due("by six: 8", x.seenIn(0, 8), 1);
        due("by six: 3", x.seenIn(0, 3), NOT_FOUND);
        due("by six: 9", x.seenIn(0, 9), NOT_FOUND);
    }

    // ---- Promise 19

    private void promise19BehindSomeMinutesIfLookedAtFromNowOn() {
        says("Promise 19", "Tells how many features of a person would be remembered behind some minutes, if the "
                + "sketcher looked at the person from now on.");
        CourtJotter x = one();
        x.look(0);
        x.pass(1);
        x.look(-1);
        x.turn(0, 6, 0);
        due("39 minutes on: of minute 0 too", x.would(0, 39), 10);
        due("40 minutes on: of minute 0 no more", x.would(0, 40), 5);
        due("nobody is looked at still", x.count(7), NOT_FOUND);
        due("no minute passed", x.count(4), 1);
        passTo(x, 9999);
        due("behind the last minute too", x.would(0, 300), 5);
        CourtJotter y = one();
        y.person(1, 1);
        y.person(1, 0);
        due("nobody is in front in the same seat", y.would(1, 1), 5);
        due("somebody is", y.would(2, 1), 1);
    }

    private void promise19NumberOfThePerson() {
        says("Promise 19", "- `person`: number of the person");
        range("one person", 0, 0, person -> one().would(person, 5));
    }

    private void promise19Minutes0To300() {
        says("Promise 19", "- `minutes`: 0 to 300");
        range("minutes", 0, 300, minutes -> one().would(0, minutes));
        CourtJotter x = one();
        due("0 minutes", x.would(0, 0), 0);
        due("1 minute", x.would(0, 1), 5);
        due("300 minutes", x.would(0, 300), 5);
    }

    private void promise19ReturnsHowMany() {
        says("Promise 19", "Returns how many");
        CourtJotter x = one();
        x.person(1, 0);
        x.turn(0, 0, 1);
        x.turn(1, 0, 1);
        int[] seen = {0, 5, 6, 7, 8, 9, 10, 11, 12, 12};
        for (int minutes = 0; minutes < seen.length; minutes++) {
            due("in front: " + minutes, x.would(0, minutes), seen[minutes]);
        }
        due("hidden: 11", x.would(1, 11), 11);
        due("hidden: 12", x.would(1, 12), 12);
        due("hidden: 13", x.would(1, 13), 12);
        x.set(0, 1);
        due("hidden, for 1 minute", x.would(1, 300), 1);
        due("in front, for 1 minute", x.would(0, 300), 5);
        x.set(0, 11);
        due("hidden, for 11 minutes", x.would(1, 300), 11);
        x.set(0, 12);
        due("hidden, for 12 minutes", x.would(1, 300), 12);
    }

    private void promise19InvalidIfOutOfRange() {
        says("Promise 19", "INVALID_ARGUMENT if an argument is out of range.");
        CourtJotter x = one();
        int[][] none = {{1, 0}, {-1, 0}, {0, -1}, {0, 301}, {MIN, MAX}, {MAX, MIN}};
        for (int[] call : none) {
            due("would(" + call[0] + ", " + call[1] + ")", x.would(call[0], call[1]), INVALID);
        }
    }

    // ---- Promise 20

    /** Two people, all of whom is remembered, and papers of these rates until the hour 299. */
    private static CourtJotter market(int... rates) {
        CourtJotter x = known();
        x.person(0, 1);
        x.turn(1, 0, 1);
        x.look(1);
        x.pass(12);
        x.look(-1);
        for (int rate : rates) {
            x.paper(rate, 299);
        }
        return x;
    }

    private void dueBest(CourtJotter x, String call, int sheet, int paper, int price) {
        due(call + ": the sheet", x.best(0), sheet);
        due(call + ": the paper", x.best(1), paper);
        due(call + ": the price", x.best(2), price);
    }

    private void promise20OfSeveralTheLowestSheetThenPaper() {
        says("Promise 20", ": of all sheets and papers the one with the greatest price, of several that with the "
                + "lowest sheet, of these the lowest paper.");
        CourtJotter x = market(1, 2, 2, 1);
        drawnSheet(x, 0, 1);
        drawnSheet(x, 1, 2);
        drawnSheet(x, 0, 2);
        dueBest(x, "the greatest price twice for 1 and 2", 1, 1, 4);
        x.tear(1);
        dueBest(x, "of 2 alone", 2, 1, 4);
        x.sell(2, 2);
        dueBest(x, "of 0, not to paper 2", 0, 1, 2);
        x.sell(0, 1);
        for (int what = 0; what < 3; what++) {
            due("none is left", x.best(what), NOT_FOUND);
        }
        CourtJotter y = market(4, 2);
        drawnSheet(y, 0, 1);
        drawnSheet(y, 1, 2);
        dueBest(y, "1 for the paper 0 is 8", 1, 0, 8);
        y.tear(1);
        drawnSheet(y, 1, 1);
        dueBest(y, "the lower sheet", 0, 0, 4);
    }

    private void promise20BestSaleThatIsPossibleNow() {
        says("Promise 20", "Finds the best sale that is possible now");
        CourtJotter x = market(1);
        x.sheet(0);
        due("an empty sheet", x.best(2), NOT_FOUND);
        x.set(1, 1);
        x.draw(0, 0);
        due("a wet sheet", x.best(2), NOT_FOUND);
        x.pass(1);
        dueBest(x, "a dry sheet", 0, 0, 1);
        x.set(1, 0);
        drawnSheet(x, 0, 2);
        x.sell(1, 0);
        due("the paper has bought one", x.best(2), NOT_FOUND);
        passTo(x, 299);
        due("at the end of the day", x.best(2), NOT_FOUND);
        x.pass(1);
        dueBest(x, "the next day", 0, 0, 1);
    }

    private void promise20What0To2() {
        says("Promise 20", "- `what`: 0: the sheet; 1: the paper; 2: the price");
        CourtJotter full = market(1, 20);
        drawnSheet(full, 0, 1);
        range("with a sale", 0, 2, full::best);
        range("without one", 0, 2, new CourtJotter()::best);
        dueBest(full, "the sale", 0, 1, 20);
    }

    private void promise20InvalidIfOutOfRange() {
        says("Promise 20", "INVALID_ARGUMENT if what is out of range");
        for (int what : new int[] {-1, 3, 4, MIN, MAX}) {
            due("best(" + what + ")", new CourtJotter().best(what), INVALID);
        }
    }

    private void promise20NotFoundIfThereIsNone() {
        says("Promise 20", "NOT_FOUND if there is none.");
        CourtJotter noPaper = market();
        drawnSheet(noPaper, 0, 1);
        CourtJotter noSheet = market(1);
        for (int what = 0; what < 3; what++) {
            due("an empty court", new CourtJotter().best(what), NOT_FOUND);
            due("no paper", noPaper.best(what), NOT_FOUND);
            due("no sheet", noSheet.best(what), NOT_FOUND);
        }
        CourtJotter x = known();
        x.paper(1, 1);
        drawnSheet(x, 0, 1);
        dueBest(x, "a sale for nothing is one", 0, 0, 0);
    }

    // ---- Promise 21

    private void promise21AgainAndAgainAsLongAsThereIsOne() {
        says("Promise 21", "Tells what all sheets would bring, if the best sale was made again and again, as long "
                + "as there is one.");
        due("an empty court", new CourtJotter().sellAll(), 0);
        CourtJotter x = market(5, 3);
        due("no sheet", x.sellAll(), 0);
        drawnSheet(x, 0, 1);
        due("one sheet, one sale", x.sellAll(), 5);
        drawnSheet(x, 0, 2);
        due("10 and 3", x.sellAll(), 13);
        drawnSheet(x, 0, 3);
        due("15 and 6, and no paper for the third", x.sellAll(), 21);
        drawnSheet(x, 1, 1);
        due("and 5 of the other", x.sellAll(), 26);
        due("nothing was sold", x.count(9), 0);
        due("nothing left the jotter", x.count(2), 4);
        due("nobody is bought", x.paperOf(0, 4), 0);
    }

    private void promise21ReturnsHowMuch() {
        says("Promise 21", "Returns how much.");
        CourtJotter x = new CourtJotter();
        x.set(1, 0);
        for (int i = 0; i < 4; i++) {
            x.paper(20, 299);
        }
        for (int i = 0; i < 3; i++) {
            x.person(0, i);
            x.turn(i, 0, 1);
            x.look(i);
            x.pass(12);
            for (int sheet = 0; sheet < (i == 2 ? 2 : 4); sheet++) {
                drawnSheet(x, i, 12);
            }
            x.verdict(i);
        }
        due("ten full sheets, each at the greatest price", x.sellAll(), 4800);
        CourtJotter y = known();
        y.paper(1, 1);
        drawnSheet(y, 0, 1);
        due("a sale for nothing", y.sellAll(), 0);
    }

    // ---- Promise 22

    private void promise22PaidDividedByHowManyAsFloats() {
        says("Promise 22", "Returns the mean price of the sheets sold so far, as a float: what was paid, as a "
                + "float, divided by how many, as a float.");
        CourtJotter x = market(7, 1, 2, 20);
        for (int i = 0; i < 4; i++) {
            drawnSheet(x, 0, 1);
        }
        x.sell(0, 0);
        due("7 by 1", x.mean(), Float.floatToIntBits(7f));
        x.sell(1, 1);
        due("8 by 2", x.mean(), Float.floatToIntBits(4f));
        x.sell(2, 2);
        due("10 by 3 is no whole number", x.mean(), Float.floatToIntBits(10f / 3f));
        x.sell(3, 3);
        due("30 by 4", x.mean(), Float.floatToIntBits(7.5f));
        x.undo();
        due("10 by 3 again", x.mean(), Float.floatToIntBits(10f / 3f));
    }

    private void promise22ReturnsTheBitsOfTheFloat() {
        says("Promise 22", "Returns the bits of the float");
        CourtJotter x = known();
        x.paper(1, 1);
        x.paper(2, 1);
        drawnSheet(x, 0, 1);
        drawnSheet(x, 0, 1);
        drawnSheet(x, 0, 1);
        x.sell(0, 0);
        due("0 by 1", x.mean(), 0);
        x.sell(1, 1);
        due("1 by 2", x.mean(), 0x3F000000);
        passTo(x, 302);
        x.sell(2, 0);
        due("1 by 3", x.mean(), 0x3EAAAAAB);
        CourtJotter y = market(1, 20);
        drawnSheet(y, 0, 1);
        drawnSheet(y, 1, 12);
        y.verdict(1);
        y.sell(0, 0);
        due("1 by 1", y.mean(), 0x3F800000);
        y.undo();
        y.sell(1, 1);
        due("480 by 1", y.mean(), 0x43F00000);
    }

    private void promise22NotFoundIfNoneWasSold() {
        says("Promise 22", "NOT_FOUND if none was sold.");
        due("an empty court", new CourtJotter().mean(), NOT_FOUND);
        CourtJotter x = market(1);
        drawnSheet(x, 0, 1);
        drawnSheet(x, 0, 1);
        due("none yet", x.mean(), NOT_FOUND);
        x.tear(0);
        due("one was torn", x.mean(), NOT_FOUND);
        x.sell(1, 0);
        due("one was sold", x.mean(), 0x3F800000);
        x.undo();
        due("undone", x.mean(), NOT_FOUND);
    }
}
