/** Promises 5 to 12: look, sheet, draw, tear, verdict, sell, pass, set. */
final class BoundariesOfSketching extends Boundaries {
    BoundariesOfSketching(Sentences sentences) {
        super(sentences);
    }

    @Override
    void run() {
        promise5();
        promise6();
        promise7();
        promise8();
        promise9();
        promise10();
        promise11();
        promise12();
    }

    private void promise5() {
        promise5NumberOfThePersonOrMinus1();
        promise5ReturnsTheFeaturesSeen0ForNobody();
        promise5InvalidIfThereIsNoSuchPerson();
    }

    private void promise6() {
        promise6NumberOfThePerson();
        promise6ReturnsItsNumber();
        promise6Invalid();
        promise6LimitIfTheJotterHasTen();
    }

    private void promise7() {
        promise7NumberOfTheSheet();
        promise7Feature0To11();
        promise7ReturnsHowManyAreDrawnThen();
        promise7InvalidIfOutOfRange();
        promise7NotPossibleIfItIsDrawn();
        promise7NotPossibleIfNotRemembered();
        promise7LimitIfThreeWereDrawnInThisMinute();
    }

    private void promise8() {
        promise8TearsASheetOut();
        promise8NumberOfTheSheet();
        promise8ReturnsHowManySheetsThen();
        promise8Invalid();
    }

    private void promise9() {
        promise9ForThisDay();
        promise9NumberOfThePerson();
        promise9ReturnsHowManySheetsOfThePerson();
        promise9Invalid();
        promise9NotPossibleIfThereIsOneThisDay();
    }

    private void promise10() {
        promise10NumberOfTheSheet();
        promise10NumberOfThePaper();
        promise10ReturnsWhatIsPaid();
        promise10Invalid();
        promise10NotPossibleIfItIsNotDry();
        promise10NotPossibleIfThePaperHasBoughtOneThisDay();
    }

    private void promise11() {
        promise11Minutes1To300();
        promise11ReturnsHowManyAreRememberedThen();
        promise11InvalidIfOutOfRange();
        promise11LimitIfTheMinuteWouldBeAbove9999();
    }

    private void promise12() {
        promise12WetInkStaysWetAsLongAsItWasTo();
        promise12What0Or1();
        promise12AValueInItsRange();
        promise12ReturnsWhatItWas();
        promise12InvalidIfOutOfRange();
    }

    // ---- Promise 5

    private void promise5NumberOfThePersonOrMinus1() {
        says("Promise 5", "- `person`: number of the person, or -1");
        range("one person", -1, 0, person -> one().look(person));
        range("nobody there", -1, -1, person -> new CourtJotter().look(person));
        CourtJotter x = one();
        x.look(0);
        due("person 0", x.count(7), 0);
        x.look(-1);
        due("nobody", x.count(7), NOT_FOUND);
    }

    private void promise5ReturnsTheFeaturesSeen0ForNobody() {
        says("Promise 5", "Returns the features of the person that are seen, as a set (0 for nobody)");
        CourtJotter x = one();
        x.person(1, 0);
        x.turn(0, 11, 1);
        due("around 11", x.look(0), 512 + 1024 + 2048 + 1 + 2);
        due("hidden", x.look(1), 1);
        due("nobody", x.look(-1), 0);
        due("nobody in an empty court", new CourtJotter().look(-1), 0);
    }

    private void promise5InvalidIfThereIsNoSuchPerson() {
        says("Promise 5", "INVALID_ARGUMENT if there is no such person.");
        CourtJotter x = new CourtJotter();
        due("look(0) in an empty court", x.look(0), INVALID);
        x.person(0, 0);
        x.look(0);
        due("look(1) with one person", x.look(1), INVALID);
        due("look(-2)", x.look(-2), INVALID);
        due("look(6)", x.look(6), INVALID);
        due("look(MIN)", x.look(MIN), INVALID);
        due("still looked at", x.count(7), 0);
    }

    // ---- Promise 6

    private void promise6NumberOfThePerson() {
        says("Promise 6", "- `person`: number of the person");
        range("one person", 0, 0, person -> one().sheet(person));
    }

    private void promise6ReturnsItsNumber() {
        says("Promise 6", "Returns its number");
        CourtJotter x = one();
        due("the first", x.sheet(0), 0);
        due("a refused one takes no number", x.sheet(1), INVALID);
        due("the second", x.sheet(0), 1);
        x.tear(1);
        due("behind the torn one", x.sheet(0), 2);
        x.undo();
        due("behind the torn one, once more", x.sheet(0), 2);
    }

    private void promise6Invalid() {
        says("Promise 6", "INVALID_ARGUMENT");
        CourtJotter x = new CourtJotter();
        due("sheet(0) in an empty court", x.sheet(0), INVALID);
        x.person(0, 0);
        due("sheet(1) with one person", x.sheet(1), INVALID);
        due("sheet(-1)", x.sheet(-1), INVALID);
        due("none was begun", x.count(3), 0);
    }

    private void promise6LimitIfTheJotterHasTen() {
        says("Promise 6", "LIMIT_REACHED if the jotter has 10.");
        CourtJotter x = one();
        for (int i = 0; i < 9; i++) {
            x.sheet(0);
        }
        due("the tenth", x.sheet(0), 9);
        due("an eleventh", x.sheet(0), LIMIT);
        due("ten were begun", x.count(3), 10);
        x.tear(9);
        due("in the torn one's stead", x.sheet(0), 10);
        due("full again", x.sheet(0), LIMIT);
    }

    // ---- Promise 7

    private static CourtJotter withSheets(int sheets) {
        CourtJotter x = known();
        for (int i = 0; i < sheets; i++) {
            x.sheet(0);
        }
        return x;
    }

    private void promise7NumberOfTheSheet() {
        says("Promise 7", "- `sheet`: number of the sheet");
        range("one sheet", 0, 0, sheet -> withSheets(1).draw(sheet, 0));
        range("ten sheets", 0, 9, sheet -> withSheets(10).draw(sheet, 0));
        due("no sheet", withSheets(0).draw(0, 0), INVALID);
    }

    private void promise7Feature0To11() {
        says("Promise 7", "- `feature`: 0 to 11");
        range("feature", 0, 11, feature -> withSheets(1).draw(0, feature));
    }

    private void promise7ReturnsHowManyAreDrawnThen() {
        says("Promise 7", "Returns how many features are drawn on it then");
        CourtJotter x = withSheets(2);
        int[] features = {11, 0, 5, 1, 2, 3, 4, 6, 7, 8, 9, 10};
        for (int i = 0; i < 12; i++) {
            if (i % 3 == 0) {
                x.pass(1);
            }
            due("drawn with feature " + features[i], x.draw(0, features[i]), i + 1);
        }
        due("full", x.sheetOf(0, 1), 4095);
        x.pass(1);
        due("the first of another", x.draw(1, 0), 1);
    }

    private void promise7InvalidIfOutOfRange() {
        says("Promise 7", "INVALID_ARGUMENT if an argument is out of range");
        CourtJotter x = withSheets(2);
        x.tear(0);
        due("a torn sheet", x.draw(0, 0), INVALID);
        due("sheet 2", x.draw(2, 0), INVALID);
        due("sheet -1", x.draw(-1, 0), INVALID);
        due("feature -1", x.draw(1, -1), INVALID);
        due("feature 12", x.draw(1, 12), INVALID);
        due("feature 32", x.draw(1, 32), INVALID);
        due("draw(MAX, MIN)", x.draw(MAX, MIN), INVALID);
        due("nothing was drawn in this minute", x.count(8), 3);
    }

    private void promise7NotPossibleIfItIsDrawn() {
        says("Promise 7", "NOT_POSSIBLE if it is drawn on it");
        CourtJotter x = withSheets(2);
        x.draw(0, 0);
        due("0 again", x.draw(0, 0), NOT_POSSIBLE);
        due("11 is another", x.draw(0, 11), 2);
        due("11 again", x.draw(0, 11), NOT_POSSIBLE);
        due("0 on another sheet", x.draw(1, 0), 1);
        due("no refused one is counted", x.count(8), 0);
    }

    private void promise7NotPossibleIfNotRemembered() {
        says("Promise 7", ", or not remembered");
        CourtJotter x = one();
        x.person(0, 1);
        x.sheet(0);
        x.look(1);
        x.pass(1);
        due("remembered of another", x.draw(0, 0), NOT_POSSIBLE);
        x.look(0);
        due("seen alone", x.draw(0, 0), NOT_POSSIBLE);
        x.pass(1);
        x.look(-1);
        x.set(0, 1);
        due("1 minute ago by 1", x.draw(0, 0), 1);
        x.pass(1);
        due("2 minutes ago by 1", x.draw(0, 1), NOT_POSSIBLE);
        x.set(0, 2);
        due("2 minutes ago by 2", x.draw(0, 1), 2);
    }

    private void promise7LimitIfThreeWereDrawnInThisMinute() {
        says("Promise 7", "LIMIT_REACHED if 3 features were drawn in this minute.");
        CourtJotter x = withSheets(2);
        x.draw(0, 0);
        x.draw(0, 1);
        due("the third", x.draw(1, 0), 1);
        due("a fourth", x.draw(1, 1), LIMIT);
        x.tear(0);
        due("two of them were torn out", x.draw(1, 1), LIMIT);
        x.undo();
        x.undo();
        due("the third was undone", x.draw(1, 1), 1);
        due("a fourth", x.draw(1, 2), LIMIT);
        x.pass(1);
        due("the next minute", x.draw(1, 2), 2);
    }

    // ---- Promise 8

    private void promise8NumberOfTheSheet() {
        says("Promise 8", "- `sheet`: number of the sheet");
        range("one sheet", 0, 0, sheet -> withSheets(1).tear(sheet));
        range("ten sheets", 0, 9, sheet -> withSheets(10).tear(sheet));
    }

    private void promise8ReturnsHowManySheetsThen() {
        says("Promise 8", "Returns how many sheets the jotter has then");
        CourtJotter x = withSheets(10);
        int[] order = {9, 0, 4, 5, 3, 1, 8, 2, 7, 6};
        for (int i = 0; i < 10; i++) {
            due("tear(" + order[i] + ")", x.tear(order[i]), 9 - i);
        }
        due("empty", x.number(0), NOT_FOUND);
    }

    private void promise8TearsASheetOut() {
        says("Promise 8", "Tears a sheet out.");
        for (int torn = 0; torn < 3; torn++) {
            CourtJotter x = withSheets(3);
            for (int sheet = 0; sheet < 3; sheet++) {
                x.set(1, 10 * sheet);
                x.draw(sheet, sheet);
            }
            x.tear(torn);
            for (int sheet = 0; sheet < 3; sheet++) {
                due("torn is " + torn + ": feature of " + sheet, x.sheetOf(sheet, 1),
                        sheet == torn ? INVALID : 1 << sheet);
                due("torn is " + torn + ": ink of " + sheet, x.sheetOf(sheet, 4),
                        sheet == torn ? INVALID : 10 * sheet);
            }
            due("the next is empty", x.sheet(0), 3);
            due("no feature", x.sheetOf(3, 1), 0);
            due("no ink", x.sheetOf(3, 4), 0);
        }
    }

    private void promise8Invalid() {
        says("Promise 8", "INVALID_ARGUMENT.");
        CourtJotter x = known();
        due("tear(0) of none", x.tear(0), INVALID);
        x.sheet(0);
        x.sheet(0);
        x.tear(0);
        due("tear(0) again", x.tear(0), INVALID);
        due("tear(2)", x.tear(2), INVALID);
        due("tear(-1)", x.tear(-1), INVALID);
        due("one is left", x.count(2), 1);
    }

    // ---- Promise 9

    private void promise9ForThisDay() {
        says("Promise 9", "Tells a verdict for a person, for this day.");
        CourtJotter x = one();
        passTo(x, 299);
        x.verdict(0);
        due("the last minute of the day", x.personOf(0, 6), 1);
        x.pass(1);
        due("the first of the next", x.personOf(0, 6), 0);
        x.verdict(0);
        due("told on it", x.personOf(0, 6), 1);
        passTo(x, 599);
        due("its last minute", x.personOf(0, 6), 1);
    }

    private void promise9NumberOfThePerson() {
        says("Promise 9", "- `person`: number of the person");
        range("one person", 0, 0, person -> one().verdict(person));
    }

    private void promise9ReturnsHowManySheetsOfThePerson() {
        says("Promise 9", "Returns how many sheets of the person the jotter has");
        due("none", one().verdict(0), 0);
        due("ten", withSheets(10).verdict(0), 10);
        CourtJotter x = withSheets(3);
        x.person(0, 1);
        x.sheet(1);
        x.tear(1);
        due("two of three, one is torn", x.verdict(0), 2);
        due("one of the other", x.verdict(1), 1);
    }

    private void promise9Invalid() {
        says("Promise 9", "INVALID_ARGUMENT");
        due("an empty court", new CourtJotter().verdict(0), INVALID);
        CourtJotter x = one();
        due("verdict(1)", x.verdict(1), INVALID);
        due("verdict(-1)", x.verdict(-1), INVALID);
        due("none is told", x.personOf(0, 6), 0);
    }

    private void promise9NotPossibleIfThereIsOneThisDay() {
        says("Promise 9", "NOT_POSSIBLE if there is one this day.");
        CourtJotter x = one();
        x.person(0, 1);
        due("the first in minute 0", x.verdict(0), 0);
        due("a second", x.verdict(0), NOT_POSSIBLE);
        due("for another person", x.verdict(1), 0);
        passTo(x, 299);
        due("at the end of the day", x.verdict(0), NOT_POSSIBLE);
        x.pass(1);
        due("the next day", x.verdict(0), 0);
        due("a second on it", x.verdict(0), NOT_POSSIBLE);
        x.undo();
        due("it was undone", x.verdict(0), 0);
    }

    // ---- Promise 10

    /** Dry sheets of person 0 with one feature each, and papers of the rate 3, until the hour 299. */
    private static CourtJotter forSale(int sheets, int papers) {
        CourtJotter x = known();
        for (int i = 0; i < papers; i++) {
            x.paper(3, 299);
        }
        for (int i = 0; i < sheets; i++) {
            drawnSheet(x, 0, 1);
        }
        return x;
    }

    private void promise10NumberOfTheSheet() {
        says("Promise 10", "- `sheet`: number of the sheet");
        range("one sheet", 0, 0, sheet -> forSale(1, 1).sell(sheet, 0));
        range("ten sheets", 0, 9, sheet -> forSale(10, 1).sell(sheet, 0));
    }

    private void promise10NumberOfThePaper() {
        says("Promise 10", "- `paper`: number of the paper");
        range("one paper", 0, 0, paper -> forSale(1, 1).sell(0, paper));
        range("four papers", 0, 3, paper -> forSale(1, 4).sell(0, paper));
        due("no paper", forSale(1, 0).sell(0, 0), INVALID);
    }

    private void promise10ReturnsWhatIsPaid() {
        says("Promise 10", "Returns what is paid");
        CourtJotter x = known();
        x.paper(20, 50);
        x.paper(1, 1);
        drawnSheet(x, 0, 12);
        drawnSheet(x, 0, 1);
        x.verdict(0);
        due("the most: 20 times 12, twice", x.sell(0, 0), 480);
        due("half of 1, twice", x.sell(1, 1), 1);
        due("of both", x.count(10), 481);
        CourtJotter y = known();
        y.paper(1, 1);
        drawnSheet(y, 0, 1);
        due("the least: half of 1", y.sell(0, 0), 0);
        due("it is sold nevertheless", y.count(9), 1);
        due("out of the jotter", y.count(2), 0);
    }

    private void promise10Invalid() {
        says("Promise 10", "INVALID_ARGUMENT");
        CourtJotter x = forSale(2, 2);
        x.sell(0, 0);
        due("a sold sheet", x.sell(0, 1), INVALID);
        x.tear(1);
        due("a torn sheet", x.sell(1, 1), INVALID);
        drawnSheet(x, 0, 1);
        due("paper 2", x.sell(2, 2), INVALID);
        due("paper -1", x.sell(2, -1), INVALID);
        due("sheet 3", x.sell(3, 1), INVALID);
        due("sheet -1", x.sell(-1, 1), INVALID);
        due("sell(MAX, MIN)", x.sell(MAX, MIN), INVALID);
        due("one is sold", x.count(9), 1);
    }

    private void promise10NotPossibleIfItIsNotDry() {
        says("Promise 10", "NOT_POSSIBLE if it is not dry");
        CourtJotter x = forSale(0, 1);
        x.set(1, 60);
        x.sheet(0);
        due("no feature", x.sell(0, 0), NOT_POSSIBLE);
        x.draw(0, 0);
        due("just drawn", x.sell(0, 0), NOT_POSSIBLE);
        x.pass(59);
        due("wet for a minute still", x.sell(0, 0), NOT_POSSIBLE);
        x.pass(1);
        due("dry", x.sell(0, 0), 3);
    }

    private void promise10NotPossibleIfThePaperHasBoughtOneThisDay() {
        says("Promise 10", ", or the paper has bought one of the person this day.");
        CourtJotter x = forSale(4, 2);
        due("the first", x.sell(3, 1), 3);
        due("a second by the same", x.sell(0, 1), NOT_POSSIBLE);
        due("a second by another", x.sell(0, 0), 3);
        passTo(x, 299);
        due("at the end of the day", x.sell(1, 1), NOT_POSSIBLE);
        x.pass(1);
        due("the next day", x.sell(1, 1), 3);
        due("a second on it", x.sell(2, 1), NOT_POSSIBLE);
        x.undo();
        due("the first on it was undone", x.sell(2, 1), 3);
    }

    // ---- Promise 11

    private void promise11Minutes1To300() {
        says("Promise 11", "- `minutes`: 1 to 300");
        range("minutes", 1, 300, minutes -> one().pass(minutes));
        CourtJotter x = new CourtJotter();
        x.pass(1);
        due("the least", x.count(4), 1);
        x.pass(300);
        due("the most", x.count(4), 301);
    }

    private void promise11ReturnsHowManyAreRememberedThen() {
        says("Promise 11", "Returns how many features of all people are remembered then");
        due("of nobody", new CourtJotter().pass(1), 0);
        CourtJotter x = new CourtJotter();
        x.set(0, 200);
        for (int i = 0; i < 6; i++) {
            x.person(0, i);
            x.turn(i, i, 1);
            x.look(i);
            due("all of " + (i + 1), x.pass(12), 12 * (i + 1));
        }
        x.look(-1);
        // The last 12 minutes of person 0 were 0 to 11; angle 0 had the feature 2 for the last time in 4.
        passTo(x, 204);
        due("feature 2 of person 0 is the first to go", x.pass(1), 71);
        passTo(x, 270);
        due("the last ones go", x.pass(1), 5);
        due("nothing is left", x.pass(1), 0);
    }

    private void promise11InvalidIfOutOfRange() {
        says("Promise 11", "INVALID_ARGUMENT if minutes is out of range");
        CourtJotter x = one();
        for (int minutes : new int[] {0, -1, 301, MIN, MAX, MAX - 9998}) {
            due("pass(" + minutes + ")", x.pass(minutes), INVALID);
        }
        due("no minute passed", x.count(4), 0);
    }

    private void promise11LimitIfTheMinuteWouldBeAbove9999() {
        says("Promise 11", "LIMIT_REACHED if the minute would be above 9999.");
        CourtJotter x = one();
        passTo(x, 9700);
        due("to 10000", x.pass(300), LIMIT);
        due("to 9999", x.pass(299), 0);
        due("one more", x.pass(1), LIMIT);
        due("300 more", x.pass(300), LIMIT);
        due("minute 9999", x.count(4), 9999);
        x.undo();
        due("undone", x.count(4), 9700);
        due("to 9998", x.pass(298), 0);
        due("two more", x.pass(2), LIMIT);
        due("one more", x.pass(1), 0);
    }

    // ---- Promise 12

    private void promise12WetInkStaysWetAsLongAsItWasTo() {
        says("Promise 12", "Sets a setting (ink that is wet stays wet as long as it was to).");
        CourtJotter x = withSheets(2);
        x.set(1, 20);
        x.draw(0, 0);
        x.set(1, 0);
        due("0 dries nothing", x.sheetOf(0, 4), 20);
        x.draw(1, 0);
        due("what is drawn now is dry", x.sheetOf(1, 3), 1);
        x.draw(0, 1);
        due("the longest of a sheet", x.sheetOf(0, 4), 20);
        x.pass(5);
        x.set(1, 60);
        due("60 wets nothing more", x.sheetOf(0, 4), 15);
        due("60 wets nothing that is dry", x.sheetOf(1, 3), 1);
        x.draw(1, 1);
        due("what is drawn now", x.sheetOf(1, 4), 60);
    }

    private void promise12What0Or1() {
        says("Promise 12", "- `what`: 0 or 1");
        range("what", 0, 1, what -> new CourtJotter().set(what, 30));
    }

    private void promise12AValueInItsRange() {
        says("Promise 12", "- `value`: a value in its range");
        range("value of 0", 1, 200, value -> new CourtJotter().set(0, value));
        range("value of 1", 0, 60, value -> new CourtJotter().set(1, value));
    }

    private void promise12ReturnsWhatItWas() {
        says("Promise 12", "Returns what it was");
        CourtJotter x = new CourtJotter();
        due("the first value of 0", x.set(0, 200), 40);
        due("the greatest of 0", x.set(0, 1), 200);
        due("the least of 0", x.set(0, 1), 1);
        due("the first value of 1", x.set(1, 60), 10);
        due("the greatest of 1", x.set(1, 0), 60);
        due("the least of 1", x.set(1, 0), 0);
    }

    private void promise12InvalidIfOutOfRange() {
        says("Promise 12", "INVALID_ARGUMENT if an argument is out of range.");
        CourtJotter x = new CourtJotter();
        int[][] none = {{0, 0}, {0, 201}, {1, -1}, {1, 61}, {2, 30}, {-1, 30}, {20, 30}, {MIN, MAX}};
        for (int[] call : none) {
            due("set(" + call[0] + ", " + call[1] + ")", x.set(call[0], call[1]), INVALID);
        }
        due("setting 0 stays", x.count(20), 40);
        due("setting 1 stays", x.count(21), 10);
    }
}
