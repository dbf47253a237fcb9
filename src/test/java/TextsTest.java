/** Promises 25 to 28: type, clearText, fault, play. */
public final class TextsTest {
    private static final int INVALID = CourtJotter.INVALID_ARGUMENT;
    private static final int NOT_POSSIBLE = CourtJotter.NOT_POSSIBLE;
    private static final int LIMIT = CourtJotter.LIMIT_REACHED;
    private static final int NOT_FOUND = CourtJotter.NOT_FOUND;
    private static final Check CHECK = new Check();

    private static void due(String call, long got, long want) {
        CHECK.due("texts", call, got, want);
    }

    public static void main(String[] args) {
        promise25Type();
        promise25TypeErrors();
        promise26ClearText();
        promise27FaultOfForm();
        promise27FaultOfCall();
        promise27FirstFault();
        promise27FaultChangesNothing();
        promise27FaultErrors();
        promise28Play();
        promise28PlayNothing();
        promise28PlayWithFault();
        promise28PlayAgain();
        CHECK.end("TextsTest");
    }

    private static void write(CourtJotter x, String text) {
        x.clearText();
        for (int i = 0; i < text.length(); i++) {
            due("type of " + text, x.type(text.charAt(i)), i + 1);
        }
    }

    /** Two people, all of person 0 remembered, one paper, minute 12; ink dries in 2 minutes. */
    private static CourtJotter court() {
        CourtJotter x = new CourtJotter();
        x.person(0, 0);
        x.person(0, 1);
        x.turn(0, 0, 1);
        x.paper(10, 100);
        x.set(1, 2);
        x.look(0);
        x.pass(12);
        return x;
    }

    private static void dueFault(CourtJotter x, String text, int position, int reason, int cause) {
        write(x, text);
        due("fault(0) of " + text, x.fault(0), position);
        due("fault(1) of " + text, x.fault(1), reason);
        due("fault(2) of " + text, x.fault(2), cause);
        due("play() of " + text, x.play(), NOT_POSSIBLE);
    }

    private static void dueNoFault(CourtJotter x, String text) {
        write(x, text);
        for (int what = 0; what < 3; what++) {
            due("fault(" + what + ") of " + text, x.fault(what), NOT_FOUND);
        }
    }

    private static void promise25Type() {
        CourtJotter x = new CourtJotter();
        for (int i = 0; i < 60; i++) {
            due("type " + i, x.type(i % 2 == 0 ? 32 : 126), i + 1);
        }
        due("the limit", x.type('m'), LIMIT);
        due("count(12)", x.count(12), 60);
        due("no change", x.count(11), 0);
    }

    private static void promise25TypeErrors() {
        CourtJotter x = new CourtJotter();
        int[] none = {31, 127, 0, -1, 59 + 65536, Integer.MIN_VALUE, Integer.MAX_VALUE};
        for (int character : none) {
            due("type(" + character + ")", x.type(character), INVALID);
        }
        due("count(12)", x.count(12), 0);
        for (int i = 0; i < 60; i++) {
            x.type('m');
        }
        due("invalid ahead of the limit", x.type(127), INVALID);
    }

    private static void promise26ClearText() {
        CourtJotter x = new CourtJotter();
        due("clearText()", x.clearText(), 0);
        write(x, "m5;x");
        due("clearText()", x.clearText(), 4);
        due("count(12)", x.count(12), 0);
        due("clearText()", x.clearText(), 0);
        due("no fault", x.fault(0), NOT_FOUND);
        due("no change", x.count(11), 0);
        write(x, "m7;");
        due("nothing of the old text", x.play(), 1);
        due("count(4)", x.count(4), 7);
    }

    private static void promise27FaultOfForm() {
        CourtJotter x = court();
        dueFault(x, "x", 0, 1, 0);
        dueFault(x, " ", 0, 1, 0);
        dueFault(x, ";", 0, 1, 0);
        dueFault(x, "M1;", 0, 1, 0);
        dueFault(x, "m", 0, 1, 1);
        dueFault(x, "m;", 0, 1, 1);
        dueFault(x, "m-1;", 0, 1, 1);
        dueFault(x, "m 1;", 0, 1, 1);
        dueFault(x, "m1", 0, 1, 2);
        dueFault(x, "m1 ;", 0, 1, 2);
        dueFault(x, "m1,1;", 0, 1, 2);
        dueFault(x, "m0011;", 0, 1, 4);
        dueFault(x, "m300", 0, 1, 4);
        dueFault(x, "l0,0;", 0, 1, 2);
        dueFault(x, "b0:", 0, 1, 2);
        dueFault(x, "v0/", 0, 1, 2);
        dueFault(x, "d", 0, 1, 1);
        dueFault(x, "d,", 0, 1, 1);
        dueFault(x, "d0", 0, 1, 2);
        dueFault(x, "d0;", 0, 1, 2);
        dueFault(x, "d0,", 0, 1, 3);
        dueFault(x, "d0,;", 0, 1, 3);
        dueFault(x, "d0,1", 0, 1, 4);
        dueFault(x, "d0,1,", 0, 1, 4);
        dueFault(x, "d0000,1;", 0, 1, 4);
        dueFault(x, "d000,0001;", 0, 1, 8);
        dueFault(x, "s0", 0, 1, 2);
        dueFault(x, "s0;", 0, 1, 2);
        dueFault(x, "s0,x", 0, 1, 3);
        dueFault(x, "s0,0x", 0, 1, 4);
        dueFault(x, "m1;;", 3, 1, 0);
        dueFault(x, "m1;m002;b", 8, 1, 1);
        dueFault(x, "t0;", 0, 1, 0);
    }

    private static void promise27FaultOfCall() {
        CourtJotter x = court();
        dueFault(x, "l2;", 0, 2, INVALID);
        dueFault(x, "b2;", 0, 2, INVALID);
        dueFault(x, "v999;", 0, 2, INVALID);
        dueFault(x, "m0;", 0, 2, INVALID);
        dueFault(x, "m301;", 0, 2, INVALID);
        dueFault(x, "d0,0;", 0, 2, INVALID);
        dueFault(x, "s0,0;", 0, 2, INVALID);
        dueFault(x, "b0;d0,12;", 3, 2, INVALID);
        dueFault(x, "b0;s0,1;", 3, 2, INVALID);
        dueFault(x, "b0;s0,0;", 3, 2, NOT_POSSIBLE);
        dueFault(x, "b1;d0,0;", 3, 2, NOT_POSSIBLE);
        dueFault(x, "b0;d0,0;d0,0;", 8, 2, NOT_POSSIBLE);
        dueFault(x, "v1;v0;v1;", 6, 2, NOT_POSSIBLE);
        dueFault(x, "b0;d0,0;d0,1;d0,2;d0,3;", 18, 2, LIMIT);
        dueFault(x, "b0;b0;b0;b0;b0;b0;b0;b0;b0;b0;b0;", 30, 2, LIMIT);
        dueFault(x, "b0;d0,0;m2;s0,0;s0,0;", 16, 2, INVALID);
        dueNoFault(x, "b0;d0,0;d0,1;d0,2;m1;d0,3;m2;s0,0;m300;v0;v1;");
        dueNoFault(x, "l001;m001;b001;d000,002;");
        for (int i = 0; i < 33; i++) {
            x.pass(300);
        }
        dueFault(x, "m87;m1;", 4, 2, LIMIT);
        dueNoFault(x, "m87;");
    }

    private static void promise27FirstFault() {
        CourtJotter x = court();
        dueFault(x, "l9;x", 0, 2, INVALID);
        dueFault(x, "x;l9;", 0, 1, 0);
        dueFault(x, "m5;l9;m", 3, 2, INVALID);
        dueFault(x, "m5;m;l9;", 3, 1, 1);
    }

    private static void promise27FaultChangesNothing() {
        CourtJotter x = court();
        dueFault(x, "b0;v0;m5;l9;", 9, 2, INVALID);
        due("count(2)", x.count(2), 0);
        due("count(3)", x.count(3), 0);
        due("count(4)", x.count(4), 12);
        due("count(12)", x.count(12), 12);
        due("personOf(0, 6)", x.personOf(0, 6), 0);
        due("undo()", x.undo(), 3);
    }

    private static void promise27FaultErrors() {
        CourtJotter x = court();
        due("fault(0) of no text", x.fault(0), NOT_FOUND);
        due("fault(-1) of no text", x.fault(-1), INVALID);
        due("fault(3) of no text", x.fault(3), INVALID);
        write(x, "x");
        due("fault(-1)", x.fault(-1), INVALID);
        due("fault(3)", x.fault(3), INVALID);
        due("fault(MIN)", x.fault(Integer.MIN_VALUE), INVALID);
        due("fault(MAX)", x.fault(Integer.MAX_VALUE), INVALID);
    }

    private static void promise28Play() {
        CourtJotter x = court();
        write(x, "b0;b1;d0,0;d0,11;m2;v0;s0,0;l1;m10;");
        due("play()", x.play(), 9);
        due("count(2)", x.count(2), 1);
        due("number(0)", x.number(0), 1);
        due("count(4)", x.count(4), 24);
        due("count(7)", x.count(7), 1);
        due("count(10)", x.count(10), 40);
        due("personOf(0, 6)", x.personOf(0, 6), 1);
        due("personOf(1, 5)", x.personOf(1, 5), 3079);
        due("the text stays", x.count(12), 35);
        due("count(11)", x.count(11), 4);
        due("one change", x.undo(), 3);
        due("count(2)", x.count(2), 0);
        due("count(3)", x.count(3), 0);
        due("count(4)", x.count(4), 12);
        due("count(7)", x.count(7), 0);
        due("count(10)", x.count(10), 0);
        due("the text stays", x.count(12), 35);
        write(x, "l0;l1;l0;l1;l0;l1;l0;l1;l0;l1;l0;l1;l0;l1;l0;l1;l0;l1;l0;l1;");
        due("twenty orders", x.play(), 20);
        due("count(11)", x.count(11), 4);
    }

    private static void promise28PlayNothing() {
        CourtJotter x = new CourtJotter();
        due("play()", x.play(), 0);
        due("count(11)", x.count(11), 1);
        x.person(0, 0);
        due("play()", x.play(), 0);
        due("count(11)", x.count(11), 3);
        due("undo()", x.undo(), 2);
        due("count(0)", x.count(0), 1);
        due("undo()", x.undo(), 1);
        due("count(0)", x.count(0), 0);
        due("undo()", x.undo(), 0);
        due("undo()", x.undo(), NOT_POSSIBLE);
    }

    private static void promise28PlayWithFault() {
        CourtJotter x = court();
        write(x, "m5;m");
        due("play()", x.play(), NOT_POSSIBLE);
        due("count(4)", x.count(4), 12);
        due("count(11)", x.count(11), 4);
        write(x, "m5;l7;");
        due("play()", x.play(), NOT_POSSIBLE);
        due("count(4)", x.count(4), 12);
        due("undo() of the pass", x.undo(), 3);
        due("count(4)", x.count(4), 0);
    }

    private static void promise28PlayAgain() {
        CourtJotter x = court();
        write(x, "v0;");
        due("play()", x.play(), 1);
        due("play() again", x.play(), NOT_POSSIBLE);
        due("fault(2)", x.fault(2), NOT_POSSIBLE);
        x.undo();
        due("play() once undone", x.play(), 1);
        write(x, "b0;");
        for (int i = 0; i < 10; i++) {
            due("play()", x.play(), 1);
        }
        due("play() with a full jotter", x.play(), NOT_POSSIBLE);
        due("fault(2)", x.fault(2), LIMIT);
    }
}
