import java.util.function.IntUnaryOperator;

/** What the boundary tests share: each says first which words of the document it is for. */
abstract class Boundaries {
    static final int INVALID = CourtJotter.INVALID_ARGUMENT;
    static final int NOT_POSSIBLE = CourtJotter.NOT_POSSIBLE;
    static final int LIMIT = CourtJotter.LIMIT_REACHED;
    static final int NOT_FOUND = CourtJotter.NOT_FOUND;
    static final int MIN = Integer.MIN_VALUE;
    static final int MAX = Integer.MAX_VALUE;

    private final Sentences sentences;

    Boundaries(Sentences sentences) {
        this.sentences = sentences;
    }

    abstract void run();

    final void says(String section, String words) {
        sentences.tested(section, words);
    }

    final void due(String call, long got, long want) {
        sentences.due(call, got, want);
    }

    /** The least and the most are in the range; the numbers beside them and the farthest ones are not. */
    final void range(String call, int least, int most, IntUnaryOperator answer) {
        due(call + ": " + least + " is refused", answer.applyAsInt(least) == INVALID ? 1 : 0, 0);
        due(call + ": " + most + " is refused", answer.applyAsInt(most) == INVALID ? 1 : 0, 0);
        for (int out : new int[] {least - 1, most + 1, MIN, MAX}) {
            due(call + ": " + out, answer.applyAsInt(out), INVALID);
        }
    }

    /** Person 0 in row 0 and seat 0. */
    static CourtJotter one() {
        CourtJotter x = new CourtJotter();
        x.person(0, 0);
        return x;
    }

    /**
     * Person 0, who turns by 1 and all of whom is remembered for 200 minutes; minute 12, angle 0; ink is
     * dry at once; nobody is looked at any more.
     */
    static CourtJotter known() {
        CourtJotter x = one();
        x.turn(0, 0, 1);
        x.set(0, 200);
        x.set(1, 0);
        x.look(0);
        x.pass(12);
        x.look(-1);
        return x;
    }

    /** A new sheet of a person with the features from 0 on; a minute passes where three are drawn in it. */
    static int drawnSheet(CourtJotter x, int person, int features) {
        int sheet = x.sheet(person);
        for (int feature = 0; feature < features; feature++) {
            if (x.count(8) == 0) {
                x.pass(1);
            }
            x.draw(sheet, feature);
        }
        return sheet;
    }

    /** Goes on to a minute that is ahead. */
    static void passTo(CourtJotter x, int minute) {
        for (int left = minute - x.count(4); left > 0; left = minute - x.count(4)) {
            x.pass(Math.min(left, 300));
        }
    }

    static void write(CourtJotter x, String text) {
        x.clearText();
        for (int i = 0; i < text.length(); i++) {
            x.type(text.charAt(i));
        }
    }
}
