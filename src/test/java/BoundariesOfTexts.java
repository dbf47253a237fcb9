/** The term of the text, and promises 25 to 28: type, clearText, fault, play. */
final class BoundariesOfTexts extends Boundaries {
    BoundariesOfTexts(Sentences sentences) {
        super(sentences);
    }

    @Override
    void run() {
        theText();
        theFault();
        promise25();
        promise26();
        promise27();
        promise28();
    }

    private void theText() {
        textsAtMostSixtyCharactersInitiallyEmpty();
        textsOrdersEachFollowedByASemicolon();
        textsNumbersOfOneToThreeDigits();
    }

    private void theFault() {
        textsPositionOfTheFirstCharacterOfTheFirstOrderNotPossible();
        textsReason1IfNotOfThisForm();
        textsReason2WhenThoseAheadOfItAreDone();
        textsCause1WhereItBreaksOff();
        textsCause1ItsLengthIfTheTextEndsTooEarly();
        textsCause2TheErrorCode();
    }

    private void promise25() {
        promise25Character32To126();
        promise25ReturnsTheLength();
        promise25InvalidIfOutOfRange();
        promise25LimitIfItHasSixty();
    }

    private void promise26() {
        promise26ReturnsTheLengthItHad();
    }

    private void promise27() {
        promise27What0To2();
        promise27InvalidIfOutOfRange();
        promise27NotFoundIfNoFaultAlsoIfEmpty();
    }

    private void promise28() {
        promise28DoesAllOrdersOfTheTextWhichStays();
        promise28OneChangeAlsoIfThereAreNone();
        promise28ReturnsHowManyThereAre();
        promise28NotPossibleIfItHasAFault();
    }

    private static String times(int count, String text) {
        StringBuilder all = new StringBuilder();
        for (int i = 0; i < count; i++) {
            all.append(text);
        }
        return all.toString();
    }

    private void dueFault(CourtJotter x, String text, int position, int reason, int cause) {
        write(x, text);
        due("position in " + text, x.fault(0), position);
        due("reason in " + text, x.fault(1), reason);
        due("cause in " + text, x.fault(2), cause);
        due("play of " + text, x.play(), NOT_POSSIBLE);
    }

    private void dueNoFault(CourtJotter x, String text) {
        write(x, text);
        for (int what = 0; what < 3; what++) {
            due("fault(" + what + ") of " + text, x.fault(what), NOT_FOUND);
        }
    }

    /** As known(), with a paper of the rate 5 until the hour 299 and an empty sheet 0. */
    private static CourtJotter ready() {
        CourtJotter x = known();
        x.paper(5, 299);
        x.sheet(0);
        return x;
    }

    // ---- the text

    private void textsAtMostSixtyCharactersInitiallyEmpty() {
        says("Texts", "There is a text of at most 60 characters, initially empty");
        CourtJotter x = new CourtJotter();
        due("initially", x.count(12), 0);
        for (int i = 1; i <= 60; i++) {
            due("character " + i, x.type('x'), i);
        }
        due("a 61st", x.type('x'), LIMIT);
        due("sixty", x.count(12), 60);
        due("clearText()", x.clearText(), 60);
        due("empty", x.count(12), 0);
    }

    private void textsOrdersEachFollowedByASemicolon() {
        says("Texts", ": orders, each followed by \";\": \"l\" a person (looked at), \"b\" a person (a sheet is "
                + "begun), \"d\" a sheet, \",\", a feature (drawn), \"v\" a person (a verdict), \"s\" a sheet, \","
                + "\", a paper (sold) or \"m\" minutes (they pass)");
        CourtJotter x = ready();
        write(x, "l0;b0;d0,11;v0;s0,0;m300;");
        due("one order of each", x.play(), 6);
        due("l: looked at", x.count(7), 0);
        due("b: begun", x.number(0), 1);
        due("d, v and s: drawn, twice 5 and sold", x.count(10), 10);
        due("m: minutes", x.count(4), 312);
        for (int character = 32; character <= 126; character++) {
            if ("lbdvsm".indexOf(character) < 0) {
                dueFault(ready(), (char) character + "0;", 0, 1, 0);
            }
        }
        dueFault(x, "l0", 0, 1, 2);
        dueFault(x, "l0,0;", 0, 1, 2);
        dueFault(x, "d0;", 0, 1, 2);
        dueFault(x, "d0,0,0;", 0, 1, 4);
        dueFault(x, ";", 0, 1, 0);
        dueFault(x, "l0;;", 3, 1, 0);
    }

    private void textsNumbersOfOneToThreeDigits() {
        says("Texts", "; numbers of 1 to 3 digits, 0 ahead allowed.");
        CourtJotter x = ready();
        dueFault(x, "m;", 0, 1, 1);
        dueNoFault(x, "m1;");
        dueNoFault(x, "m01;");
        dueNoFault(x, "m001;");
        dueFault(x, "m0001;", 0, 1, 4);
        dueNoFault(x, "m10;");
        dueNoFault(x, "m300;");
        dueFault(x, "m1000;", 0, 1, 4);
        dueNoFault(x, "l0;l00;l000;");
        dueFault(x, "d,0;", 0, 1, 1);
        dueFault(x, "d0,;", 0, 1, 3);
        dueNoFault(x, "d000,011;");
        dueFault(x, "d0000,011;", 0, 1, 4);
        dueFault(x, "d000,0011;", 0, 1, 8);
        dueFault(x, "l-1;", 0, 1, 1);
        dueFault(x, "m/;", 0, 1, 1);
        dueFault(x, "m:;", 0, 1, 1);
        dueFault(x, "m999;", 0, 2, INVALID);
        write(x, "m010;");
        due("play of m010;", x.play(), 1);
        due("ten minutes, not eight", x.count(4), 22);
    }

    // ---- the fault

    private void textsPositionOfTheFirstCharacterOfTheFirstOrderNotPossible() {
        says("Texts", "The fault of the text is the position, from 0, of the first character of the first order "
                + "that is not possible");
        CourtJotter x = ready();
        dueFault(x, "m0;", 0, 2, INVALID);
        dueFault(x, "m1;m0;", 3, 2, INVALID);
        dueFault(x, "m0;m0;", 0, 2, INVALID);
        dueFault(x, "m0;x", 0, 2, INVALID);
        dueFault(x, "x;m0;", 0, 1, 0);
        dueFault(x, "m001;d0,0;v0;x", 13, 1, 0);
        dueFault(ready(), times(19, "l0;") + "l9;", 57, 2, INVALID);
        dueFault(ready(), times(19, "l0;") + "l0:", 57, 1, 2);
        dueFault(ready(), times(19, "l0;") + "l", 57, 1, 1);
    }

    private void textsReason1IfNotOfThisForm() {
        says("Texts", "; its reason is 1 if it is not of this form, its \";\" included");
        CourtJotter x = ready();
        dueFault(x, "m1", 0, 1, 2);
        dueNoFault(x, "m1;");
        dueFault(x, "m1:", 0, 1, 2);
        dueFault(x, "m 1;", 0, 1, 1);
        dueFault(x, "m1 ;", 0, 1, 2);
        dueFault(x, "m1; ", 3, 1, 0);
        dueFault(x, "m999", 0, 1, 4);
    }

    private void textsReason2WhenThoseAheadOfItAreDone() {
        says("Texts", ", and otherwise 2, when those ahead of it are done");
        CourtJotter x = ready();
        dueFault(x, "d1,0;", 0, 2, INVALID);
        dueNoFault(x, "b0;d1,0;");
        dueFault(x, "s0,0;", 0, 2, NOT_POSSIBLE);
        dueNoFault(x, "d0,0;s0,0;");
        dueFault(x, "d0,0;d0,0;", 5, 2, NOT_POSSIBLE);
        dueFault(x, "d0,0;s0,0;d0,1;", 10, 2, INVALID);
        dueFault(x, "d0,0;d0,1;d0,2;d0,3;", 15, 2, LIMIT);
        dueNoFault(x, "d0,0;d0,1;d0,2;m1;d0,3;");
        due("nothing is done by asking", x.sheetOf(0, 2), 0);
        due("no minute passed", x.count(4), 12);
    }

    private void textsCause1WhereItBreaksOff() {
        says("Texts", "; its cause is with the reason 1 at which character of the order, from 0, it breaks off");
        CourtJotter x = ready();
        dueFault(x, "M1;", 0, 1, 0);
        dueFault(x, "mx1;", 0, 1, 1);
        dueFault(x, "m1x;", 0, 1, 2);
        dueFault(x, "m12x;", 0, 1, 3);
        dueFault(x, "m123x;", 0, 1, 4);
        dueFault(x, "m1;l0;dx,0;", 6, 1, 1);
        dueFault(x, "m1;l0;d0x0;", 6, 1, 2);
        dueFault(x, "m1;l0;d0,x;", 6, 1, 3);
        dueFault(x, "m1;l0;d0,0x", 6, 1, 4);
        dueFault(x, "m1;l0;d000,011x", 6, 1, 8);
    }

    private void textsCause1ItsLengthIfTheTextEndsTooEarly() {
        says("Texts", " (of one that the text ends too early it is its length)");
        CourtJotter x = ready();
        String order = "d000,011";
        for (int length = 1; length <= order.length(); length++) {
            dueFault(x, order.substring(0, length), 0, 1, length);
            dueFault(x, "m1;" + order.substring(0, length), 3, 1, length);
        }
        dueNoFault(x, "m1;" + order + ";");
        dueFault(ready(), times(17, "l0;") + "s000,000;", 51, 2, NOT_POSSIBLE);
        dueFault(ready(), times(17, "l0;") + "l0;d000,0", 54, 1, 6);
    }

    private void textsCause2TheErrorCode() {
        says("Texts", ", and with the reason 2 the error code that the call returns for it.");
        CourtJotter x = ready();
        dueFault(x, "l1;", 0, 2, INVALID);
        dueFault(x, "b1;", 0, 2, INVALID);
        dueFault(x, "v1;", 0, 2, INVALID);
        dueFault(x, "m301;", 0, 2, INVALID);
        dueFault(x, "d0,12;", 0, 2, INVALID);
        dueFault(x, "s0,1;", 0, 2, INVALID);
        dueFault(x, "v0;v0;", 3, 2, NOT_POSSIBLE);
        dueFault(x, "m200;d0,4;", 5, 2, NOT_POSSIBLE);
        dueFault(x, times(10, "b0;"), 27, 2, LIMIT);
        passTo(x, 9700);
        dueNoFault(x, "m299;");
        dueFault(x, "m300;", 0, 2, LIMIT);
        dueFault(x, "m299;m1;", 5, 2, LIMIT);
        due("those calls' own answers", x.pass(300), LIMIT);
    }

    // ---- Promise 25

    private void promise25Character32To126() {
        says("Promise 25", "- `character`: 32 to 126");
        range("character", 32, 126, character -> new CourtJotter().type(character));
    }

    private void promise25ReturnsTheLength() {
        says("Promise 25", "Returns the length of the text");
        CourtJotter x = new CourtJotter();
        due("the first", x.type(126), 1);
        due("a refused one", x.type(127), INVALID);
        due("the second", x.type(32), 2);
        x.clearText();
        due("the first again", x.type(32), 1);
    }

    private void promise25InvalidIfOutOfRange() {
        says("Promise 25", "INVALID_ARGUMENT if character is out of range");
        CourtJotter x = new CourtJotter();
        for (int character : new int[] {31, 127, 0, -1, 65536 + 'm', MIN, MAX}) {
            due("type(" + character + ")", x.type(character), INVALID);
        }
        due("nothing was typed", x.count(12), 0);
    }

    private void promise25LimitIfItHasSixty() {
        says("Promise 25", "LIMIT_REACHED if it has 60 characters.");
        CourtJotter x = new CourtJotter();
        write(x, times(59, " "));
        due("the 60th", x.type('m'), 60);
        due("a 61st", x.type('m'), LIMIT);
        due("a 61st again", x.type('m'), LIMIT);
        x.clearText();
        due("there is room again", x.type('m'), 1);
    }

    // ---- Promise 26

    private void promise26ReturnsTheLengthItHad() {
        says("Promise 26", "Returns the length it had.");
        CourtJotter x = new CourtJotter();
        due("an empty one", x.clearText(), 0);
        x.type('m');
        due("one character", x.clearText(), 1);
        due("empty again", x.clearText(), 0);
        write(x, times(60, "m"));
        due("a full one", x.clearText(), 60);
        due("empty again", x.clearText(), 0);
    }

    // ---- Promise 27

    private void promise27What0To2() {
        says("Promise 27", "- `what`: 0: its position; 1: its reason; 2: its cause");
        CourtJotter x = ready();
        range("without a fault", 0, 2, x::fault);
        dueFault(x, "m1;m12x", 3, 1, 3);
        range("with a fault", 0, 2, x::fault);
    }

    private void promise27InvalidIfOutOfRange() {
        says("Promise 27", "INVALID_ARGUMENT if what is out of range");
        CourtJotter x = new CourtJotter();
        for (int what : new int[] {-1, 3, MIN, MAX}) {
            x.clearText();
            due("fault(" + what + ") of an empty text", x.fault(what), INVALID);
            x.type('x');
            due("fault(" + what + ") of a fault", x.fault(what), INVALID);
        }
    }

    private void promise27NotFoundIfNoFaultAlsoIfEmpty() {
        says("Promise 27", "NOT_FOUND if the text has no fault (also if it is empty).");
        CourtJotter x = ready();
        dueNoFault(x, "");
        dueNoFault(x, "m1;");
        dueNoFault(ready(), times(20, "l0;"));
        write(x, "x");
        x.clearText();
        due("of a text that was emptied", x.fault(0), NOT_FOUND);
    }

    // ---- Promise 28

    private void promise28DoesAllOrdersOfTheTextWhichStays() {
        says("Promise 28", "Does all orders of the text, which stays.");
        CourtJotter x = ready();
        write(x, times(20, "m1;"));
        due("a full text", x.play(), 20);
        due("the last one too", x.count(4), 32);
        due("it stays", x.count(12), 60);
        due("once more", x.play(), 20);
        due("once more", x.count(4), 52);
        x.undo();
        due("it stays with undo()", x.count(12), 60);
        due("all are undone", x.count(4), 32);
    }

    private void promise28OneChangeAlsoIfThereAreNone() {
        says("Promise 28", "They are one change, also if there are none.");
        CourtJotter x = new CourtJotter();
        due("none", x.play(), 0);
        due("a state", x.count(11), 1);
        write(x, times(20, "m1;"));
        x.play();
        due("twenty are one more", x.count(11), 2);
        due("undone at once", x.undo(), 1);
        due("all of them", x.count(4), 0);
        due("and the one of none", x.undo(), 0);
        due("that is all", x.undo(), NOT_POSSIBLE);
    }

    private void promise28ReturnsHowManyThereAre() {
        says("Promise 28", "Returns how many there are in it");
        CourtJotter x = ready();
        due("an empty text", x.play(), 0);
        for (int orders = 1; orders <= 5; orders++) {
            write(x, times(orders, "l000;"));
            due("orders", x.play(), orders);
        }
    }

    private void promise28NotPossibleIfItHasAFault() {
        says("Promise 28", "NOT_POSSIBLE if it has a fault.");
        CourtJotter x = ready();
        String before = Snapshot.of(x);
        for (String text : new String[] {"x", "m1;x", "m1;l0;v0", "m1;b0;l9;", "v0;d0,0;v0;"}) {
            write(x, text);
            due("play of " + text, x.play(), NOT_POSSIBLE);
        }
        due("nothing was done", Snapshot.of(x).equals(before) ? 1 : 0, 1);
        due("nothing was recorded", x.undo(), 3);
        due("the sheet of ready() is undone", x.count(2), 0);
    }
}
