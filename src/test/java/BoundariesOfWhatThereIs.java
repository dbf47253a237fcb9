/** Promises 13 to 17 and 23: personOf, sheetOf, paperOf, price, number, count. */
final class BoundariesOfWhatThereIs extends Boundaries {
    BoundariesOfWhatThereIs(Sentences sentences) {
        super(sentences);
    }

    @Override
    void run() {
        promise13();
        promise14();
        promise15();
        promise16();
        promise17();
        promise23();
    }

    private void promise13() {
        promise13NumberOfThePerson();
        promise13What0To8();
        promise13VerdictThisDayOtherwise0();
        promise13SheetsInTheJotterAndPaidSoFar();
        promise13InvalidIfOutOfRange();
    }

    private void promise14() {
        promise14NumberOfTheSheet();
        promise14What0To5();
        promise14DryOtherwise0();
        promise14WetForHowManyMinutesStill();
        promise14RememberedAndNotDrawnWhateverWasDrawn();
        promise14InvalidIfOutOfRange();
    }

    private void promise15() {
        promise15NumberOfThePaper();
        promise15What0To4();
        promise15PeopleOfThisDayAsASet();
        promise15InvalidIfOutOfRange();
    }

    private void promise16() {
        promise16WhetherItCouldBeSoldOrNot();
        promise16NumberOfTheSheet();
        promise16NumberOfThePaper();
        promise16ReturnsThePriceOrInvalid();
    }

    private void promise17() {
        promise17Index0ForTheLowestNumber();
        promise17InvalidIfBelow0();
        promise17NotFoundIfThereAreNotSoMany();
    }

    private void promise23() {
        promise23CountsAndTheMinute();
        promise23SoldAndPaidSoFar();
        promise23Settings0And1();
        promise23NotFoundForNobody();
        promise23FeaturesThatCanBeDrawnStill();
        promise23StatesInTheHistoryAndLengthOfTheText();
        promise23InvalidIfOutOfRange();
    }

    // ---- Promise 13

    private void promise13NumberOfThePerson() {
        says("Promise 13", "- `person`: number of the person");
        range("one person", 0, 0, person -> one().personOf(person, 0));
        due("nobody", new CourtJotter().personOf(0, 0), INVALID);
    }

    private void promise13What0To8() {
        says("Promise 13", "- `what`: 0: the row; 1: the seat; 2: the angle; 3: the step; 4: the features that "
                + "are seen; 5: the features that are remembered; ");
        range("what", 0, 8, what -> one().personOf(0, what));
        CourtJotter x = new CourtJotter();
        x.person(3, 5);
        x.turn(0, 11, 11);
        x.look(0);
        x.pass(1);
        int[] due = {3, 5, 10, 11, 256 + 512 + 1024 + 2048 + 1, 512 + 1024 + 2048 + 1 + 2, 0, 0, 0};
        for (int what = 0; what < due.length; what++) {
            due("personOf(0, " + what + ")", x.personOf(0, what), due[what]);
        }
    }

    private void promise13VerdictThisDayOtherwise0() {
        says("Promise 13", "6: 1 if there is a verdict this day, otherwise 0; ");
        CourtJotter x = one();
        due("none", x.personOf(0, 6), 0);
        x.verdict(0);
        passTo(x, 299);
        due("this day", x.personOf(0, 6), 1);
        x.pass(1);
        due("the day before", x.personOf(0, 6), 0);
    }

    private void promise13SheetsInTheJotterAndPaidSoFar() {
        says("Promise 13", "7: sheets in the jotter; 8: what was paid for sheets so far");
        CourtJotter x = known();
        x.person(0, 1);
        x.paper(20, 299);
        for (int i = 0; i < 10; i++) {
            due("sheets", x.personOf(0, 7), i);
            drawnSheet(x, 0, 1);
        }
        due("ten sheets", x.personOf(0, 7), 10);
        due("of the other", x.personOf(1, 7), 0);
        x.tear(9);
        due("one was torn", x.personOf(0, 7), 9);
        due("a torn one is not paid", x.personOf(0, 8), 0);
        x.sell(0, 0);
        due("one was sold", x.personOf(0, 7), 8);
        due("paid", x.personOf(0, 8), 20);
        x.pass(300);
        x.sell(1, 0);
        due("paid on both days", x.personOf(0, 8), 40);
        due("for the other", x.personOf(1, 8), 0);
    }

    private void promise13InvalidIfOutOfRange() {
        says("Promise 13", "INVALID_ARGUMENT if an argument is out of range.");
        CourtJotter x = one();
        int[][] none = {{1, 0}, {-1, 0}, {6, 0}, {0, -1}, {0, 9}, {MIN, MAX}, {MAX, MIN}};
        for (int[] call : none) {
            due("personOf(" + call[0] + ", " + call[1] + ")", x.personOf(call[0], call[1]), INVALID);
        }
    }

    // ---- Promise 14

    private static CourtJotter withSheets(int sheets) {
        CourtJotter x = known();
        for (int i = 0; i < sheets; i++) {
            x.sheet(0);
        }
        return x;
    }

    private void promise14NumberOfTheSheet() {
        says("Promise 14", "- `sheet`: number of the sheet");
        range("one sheet", 0, 0, sheet -> withSheets(1).sheetOf(sheet, 0));
        range("ten sheets", 0, 9, sheet -> withSheets(10).sheetOf(sheet, 0));
        CourtJotter x = withSheets(10);
        x.tear(0);
        x.sheet(0);
        due("the torn one", x.sheetOf(0, 0), INVALID);
        due("the eleventh", x.sheetOf(10, 0), 0);
    }

    private void promise14What0To5() {
        says("Promise 14", "- `what`: 0: the person; 1: the features that are drawn; 2: how many; ");
        range("what", 0, 5, what -> withSheets(1).sheetOf(0, what));
        CourtJotter x = known();
        int empty = x.sheet(0);
        int full = drawnSheet(x, 0, 12);
        int[] ofEmpty = {0, 0, 0, 0, 0, 4095};
        int[] ofFull = {0, 4095, 12, 1, 0, 0};
        for (int what = 0; what < 6; what++) {
            due("empty: " + what, x.sheetOf(empty, what), ofEmpty[what]);
            due("full: " + what, x.sheetOf(full, what), ofFull[what]);
        }
        x.pass(1);
        x.draw(empty, 11);
        due("one: the features", x.sheetOf(empty, 1), 2048);
        due("one: how many", x.sheetOf(empty, 2), 1);
    }

    private void promise14DryOtherwise0() {
        says("Promise 14", "3: 1 if it is dry, otherwise 0; ");
        CourtJotter x = withSheets(1);
        x.set(1, 2);
        due("no feature", x.sheetOf(0, 3), 0);
        x.draw(0, 0);
        due("just drawn", x.sheetOf(0, 3), 0);
        x.pass(1);
        due("wet for a minute still", x.sheetOf(0, 3), 0);
        x.pass(1);
        due("dry", x.sheetOf(0, 3), 1);
    }

    private void promise14WetForHowManyMinutesStill() {
        says("Promise 14", "4: for how many minutes ink on it is wet still; ");
        CourtJotter first = one();
        first.sheet(0);
        due("no ink in minute 0", first.sheetOf(0, 4), 0);
        CourtJotter x = withSheets(1);
        due("no ink", x.sheetOf(0, 4), 0);
        x.set(1, 60);
        x.draw(0, 0);
        due("the most", x.sheetOf(0, 4), 60);
        x.pass(50);
        x.set(1, 5);
        x.draw(0, 1);
        due("the older ink is wet for longer", x.sheetOf(0, 4), 10);
        x.set(1, 11);
        x.draw(0, 2);
        due("the newer ink is wet for longer", x.sheetOf(0, 4), 11);
        x.pass(10);
        due("a last minute", x.sheetOf(0, 4), 1);
        x.pass(1);
        due("none any more", x.sheetOf(0, 4), 0);
        x.pass(300);
        due("not below 0", x.sheetOf(0, 4), 0);
    }

    private void promise14RememberedAndNotDrawnWhateverWasDrawn() {
        says("Promise 14", "5: the features that are remembered of its person, and not drawn on it (whatever was "
                + "drawn in this minute)");
        CourtJotter x = withSheets(2);
        x.draw(0, 0);
        x.draw(0, 11);
        x.draw(1, 5);
        due("none can be drawn in this minute", x.count(8), 0);
        due("but these are left", x.sheetOf(0, 5), 4095 - 1 - 2048);
        due("and these of the other", x.sheetOf(1, 5), 4095 - 32);
        x.set(0, 1);
        // Of minute 11 and angle 11: the features 9, 10, 11, 0 and 1.
        due("by 1 minute", x.sheetOf(0, 5), 512 + 1024 + 2);
        x.pass(1);
        due("all is forgotten", x.sheetOf(0, 5), 0);
    }

    private void promise14InvalidIfOutOfRange() {
        says("Promise 14", "INVALID_ARGUMENT if an argument is out of range.");
        CourtJotter x = withSheets(2);
        x.tear(0);
        int[][] none = {{0, 0}, {2, 0}, {-1, 0}, {1, -1}, {1, 6}, {MIN, MAX}, {MAX, MIN}};
        for (int[] call : none) {
            due("sheetOf(" + call[0] + ", " + call[1] + ")", x.sheetOf(call[0], call[1]), INVALID);
        }
    }

    // ---- Promise 15

    private static CourtJotter withPapers(int papers) {
        CourtJotter x = known();
        for (int i = 0; i < papers; i++) {
            x.paper(20, 299);
        }
        return x;
    }

    private void promise15NumberOfThePaper() {
        says("Promise 15", "- `paper`: number of the paper");
        range("one paper", 0, 0, paper -> withPapers(1).paperOf(paper, 0));
        range("four papers", 0, 3, paper -> withPapers(4).paperOf(paper, 0));
        due("no paper", withPapers(0).paperOf(0, 0), INVALID);
    }

    private void promise15What0To4() {
        says("Promise 15", "- `what`: 0: the rate; 1: the hour; 2: sheets bought so far; 3: what it paid so far; ");
        range("what", 0, 4, what -> withPapers(1).paperOf(0, what));
        CourtJotter x = withPapers(2);
        int[] first = {20, 299, 0, 0, 0};
        for (int what = 0; what < 5; what++) {
            due("at first: " + what, x.paperOf(1, what), first[what]);
        }
        drawnSheet(x, 0, 12);
        drawnSheet(x, 0, 1);
        x.sell(0, 1);
        passTo(x, 300);
        x.sell(1, 1);
        int[] then = {20, 299, 2, 260, 1};
        for (int what = 0; what < 5; what++) {
            due("then: " + what, x.paperOf(1, what), then[what]);
        }
        due("the other bought none", x.paperOf(0, 2), 0);
    }

    private void promise15PeopleOfThisDayAsASet() {
        says("Promise 15", "4: people of whom it has bought a sheet this day, as a set");
        CourtJotter x = withPapers(2);
        for (int i = 1; i < 6; i++) {
            x.person(0, i);
        }
        for (int i = 0; i < 6; i++) {
            x.look(i);
            x.pass(1);
            drawnSheet(x, i, 1);
        }
        due("nobody", x.paperOf(0, 4), 0);
        x.sell(5, 0);
        due("person 5", x.paperOf(0, 4), 32);
        for (int i = 0; i < 5; i++) {
            x.sell(i, 0);
        }
        due("all six", x.paperOf(0, 4), 63);
        due("not those of another paper", x.paperOf(1, 4), 0);
        passTo(x, 299);
        due("at the end of the day", x.paperOf(0, 4), 63);
        x.pass(1);
        due("the next day", x.paperOf(0, 4), 0);
        due("six so far", x.paperOf(0, 2), 6);
    }

    private void promise15InvalidIfOutOfRange() {
        says("Promise 15", "INVALID_ARGUMENT if an argument is out of range.");
        CourtJotter x = withPapers(1);
        int[][] none = {{1, 0}, {-1, 0}, {4, 0}, {0, -1}, {0, 5}, {MIN, MAX}, {MAX, MIN}};
        for (int[] call : none) {
            due("paperOf(" + call[0] + ", " + call[1] + ")", x.paperOf(call[0], call[1]), INVALID);
        }
    }

    // ---- Promise 16

    private void promise16WhetherItCouldBeSoldOrNot() {
        says("Promise 16", "Returns the price of a sheet for a paper, whether it could be sold or not.");
        CourtJotter x = withPapers(1);
        x.sheet(0);
        x.sheet(0);
        due("an empty one", x.price(0, 0), 0);
        x.draw(0, 0);
        x.set(1, 60);
        x.draw(1, 0);
        due("a wet one", x.price(1, 0), 20);
        due("a dry one", x.price(0, 0), 20);
        x.sell(0, 0);
        due("one that may not be bought", x.price(1, 0), 20);
        due("a sold one", x.price(0, 0), INVALID);
    }

    private void promise16NumberOfTheSheet() {
        says("Promise 16", "- `sheet`: number of the sheet");
        range("one sheet", 0, 0, sheet -> withSheetAndPapers().price(sheet, 0));
    }

    private static CourtJotter withSheetAndPapers() {
        CourtJotter x = withPapers(4);
        x.sheet(0);
        return x;
    }

    private void promise16NumberOfThePaper() {
        says("Promise 16", "- `paper`: number of the paper");
        range("four papers", 0, 3, paper -> withSheetAndPapers().price(0, paper));
    }

    private void promise16ReturnsThePriceOrInvalid() {
        says("Promise 16", "Returns the price; INVALID_ARGUMENT.");
        CourtJotter x = withPapers(1);
        due("no sheet", x.price(0, 0), INVALID);
        drawnSheet(x, 0, 12);
        due("the most features", x.price(0, 0), 240);
        x.verdict(0);
        due("the greatest price", x.price(0, 0), 480);
        int[][] none = {{1, 0}, {-1, 0}, {0, 1}, {0, -1}, {0, 4}, {MIN, MAX}, {MAX, MIN}};
        for (int[] call : none) {
            due("price(" + call[0] + ", " + call[1] + ")", x.price(call[0], call[1]), INVALID);
        }
        x.tear(0);
        due("a torn sheet", x.price(0, 0), INVALID);
    }

    // ---- Promise 17

    private void promise17Index0ForTheLowestNumber() {
        says("Promise 17", "- `index`: 0 for the one with the lowest number, and so on");
        CourtJotter x = withSheets(10);
        due("the lowest", x.number(0), 0);
        due("the highest", x.number(9), 9);
        x.tear(0);
        x.tear(5);
        x.sheet(0);
        int[] numbers = {1, 2, 3, 4, 6, 7, 8, 9, 10};
        for (int i = 0; i < numbers.length; i++) {
            due("number(" + i + ")", x.number(i), numbers[i]);
        }
    }

    private void promise17InvalidIfBelow0() {
        says("Promise 17", "INVALID_ARGUMENT if index is below 0");
        for (int sheets : new int[] {0, 1, 10}) {
            due("-1 of " + sheets, withSheets(sheets).number(-1), INVALID);
            due("MIN of " + sheets, withSheets(sheets).number(MIN), INVALID);
        }
    }

    private void promise17NotFoundIfThereAreNotSoMany() {
        says("Promise 17", "NOT_FOUND if there are not so many.");
        for (int sheets : new int[] {0, 1, 10}) {
            CourtJotter x = withSheets(sheets);
            due("the one behind the last of " + sheets, x.number(sheets), NOT_FOUND);
            due("MAX of " + sheets, x.number(MAX), NOT_FOUND);
        }
        CourtJotter x = withSheets(10);
        x.tear(0);
        due("ten were begun, nine are there", x.number(9), NOT_FOUND);
    }

    // ---- Promise 23

    /** Six people, four papers, eight of eleven sheets, two of which were sold; the last minute. */
    private static CourtJotter fullCourt() {
        CourtJotter x = withPapers(4);
        for (int i = 1; i < 6; i++) {
            x.person(3, i);
        }
        for (int i = 0; i < 10; i++) {
            drawnSheet(x, 0, 1);
        }
        x.sell(0, 0);
        x.sell(1, 1);
        x.tear(2);
        x.sheet(0);
        passTo(x, 9999);
        return x;
    }

    private void promise23CountsAndTheMinute() {
        says("Promise 23", "- `what`: 0: people; 1: papers; 2: sheets in the jotter; 3: sheets so far; 4: the "
                + "minute; 5: the day; 6: the hour of the day; ");
        CourtJotter empty = new CourtJotter();
        CourtJotter full = fullCourt();
        int[] counts = {6, 4, 8, 11, 9999, 33, 99};
        for (int what = 0; what < counts.length; what++) {
            due("empty: count(" + what + ")", empty.count(what), 0);
            due("full: count(" + what + ")", full.count(what), counts[what]);
        }
    }

    private void promise23SoldAndPaidSoFar() {
        says("Promise 23", "9: sheets sold so far; 10: what was paid so far; ");
        CourtJotter x = fullCourt();
        due("none is sold", new CourtJotter().count(9), 0);
        due("nothing is paid", new CourtJotter().count(10), 0);
        due("two are sold, also on an earlier day", x.count(9), 2);
        due("40 is paid, also on an earlier day", x.count(10), 40);
    }

    private void promise23Settings0And1() {
        says("Promise 23", "20 and 21: the settings 0 and 1");
        CourtJotter x = new CourtJotter();
        due("the first value of 0", x.count(20), 40);
        due("the first value of 1", x.count(21), 10);
        x.set(0, 1);
        x.set(1, 60);
        due("the least of 0", x.count(20), 1);
        due("the greatest of 1", x.count(21), 60);
        x.set(0, 200);
        x.set(1, 0);
        due("the greatest of 0", x.count(20), 200);
        due("the least of 1", x.count(21), 0);
    }

    private void promise23NotFoundForNobody() {
        says("Promise 23", "7: the person who is looked at, NOT_FOUND for nobody; ");
        CourtJotter x = one();
        due("nobody at first", x.count(7), NOT_FOUND);
        x.look(0);
        due("person 0", x.count(7), 0);
        x.look(-1);
        due("nobody any more", x.count(7), NOT_FOUND);
    }

    private void promise23FeaturesThatCanBeDrawnStill() {
        says("Promise 23", "8: features that can be drawn in this minute still; ");
        CourtJotter x = withSheets(1);
        for (int feature = 0; feature < 3; feature++) {
            due("ahead of feature " + feature, x.count(8), 3 - feature);
            x.draw(0, feature);
        }
        due("none", x.count(8), 0);
        x.draw(0, 3);
        due("not below 0", x.count(8), 0);
        x.pass(1);
        due("the next minute", x.count(8), 3);
        due("also if nothing can be", new CourtJotter().count(8), 3);
    }

    private void promise23StatesInTheHistoryAndLengthOfTheText() {
        says("Promise 23", "11: states in the history; 12: the length of the text; ");
        CourtJotter x = new CourtJotter();
        for (int i = 0; i < 6; i++) {
            due("states", x.count(11), Math.min(i, 4));
            x.look(-1);
        }
        for (int i = 0; i < 62; i++) {
            due("length", x.count(12), Math.min(i, 60));
            x.type('m');
        }
        due("typing makes no state", x.count(11), 4);
        x.clearText();
        due("empty", x.count(12), 0);
    }

    private void promise23InvalidIfOutOfRange() {
        says("Promise 23", "INVALID_ARGUMENT if what is out of range.");
        range("the low ones", 0, 12, what -> new CourtJotter().count(what));
        range("the settings", 20, 21, what -> new CourtJotter().count(what));
        for (int what = 13; what < 20; what++) {
            due("count(" + what + ")", new CourtJotter().count(what), INVALID);
        }
    }
}
