import java.util.ArrayList;
import java.util.List;
import java.util.function.ToIntFunction;

/** Changes and errors, the constants, and promise 24: undo. */
final class BoundariesOfChanges extends Boundaries {
    private record Call(String name, ToIntFunction<CourtJotter> call) { }

    private static void add(List<Call> calls, String name, ToIntFunction<CourtJotter> call) {
        calls.add(new Call(name, call));
    }

    BoundariesOfChanges(Sentences sentences) {
        super(sentences);
    }

    @Override
    void run() {
        changesAreTheCallsThatReturnNoError();
        aHistoryOfAtMostFourStates();
        eachChangeRecordsEverythingButTheText();
        withFiveStatesTheOldestIsDropped();
        invalidRatherThanNotPossible();
        notPossibleRatherThanLimit();
        invalidRatherThanNotFoundAndLimit();
        anErrorChangesNothing();
        noPersonSheetOrPaperIsInvalid();
        theConstants();
        promise24();
    }

    private void promise24() {
        promise24RestoresTheLatestStateWhichIsRemoved();
        promise24ReturnsTheNumberOfStatesLeft();
        promise24NotPossibleIfItIsEmpty();
    }

    /**
     * Two people, a paper, and sheets of person 0: 0 is dry, 1 is empty, 2 is wet; minute 14, in which
     * nothing is drawn yet.
     */
    private static CourtJotter court() {
        CourtJotter x = known();
        x.person(1, 0);
        x.paper(9, 5);
        drawnSheet(x, 0, 3);
        x.sheet(0);
        x.pass(1);
        x.set(1, 30);
        drawnSheet(x, 0, 2);
        x.pass(1);
        return x;
    }

    /** The same court, with room for one state in its history. */
    private static CourtJotter courtOfThreeStates() {
        CourtJotter x = court();
        x.pass(1);
        x.undo();
        return x;
    }

    private static List<Call> changes() {
        List<Call> calls = new ArrayList<>();
        add(calls, "person", x -> x.person(3, 3));
        add(calls, "turn", x -> x.turn(0, 5, 7));
        add(calls, "paper", x -> x.paper(3, 3));
        add(calls, "look", x -> x.look(0));
        add(calls, "look at nobody", x -> x.look(-1));
        add(calls, "sheet", x -> x.sheet(1));
        add(calls, "draw", x -> x.draw(1, 5));
        add(calls, "draw on a wet sheet", x -> x.draw(2, 5));
        add(calls, "tear", x -> x.tear(0));
        add(calls, "verdict", x -> x.verdict(0));
        add(calls, "sell", x -> x.sell(0, 0));
        add(calls, "pass", x -> x.pass(300));
        add(calls, "set 0", x -> x.set(0, 1));
        add(calls, "set 1", x -> x.set(1, 60));
        add(calls, "play of nothing", x -> x.play());
        return calls;
    }

    /** Calls that court() refuses. */
    private static List<Call> refused() {
        List<Call> calls = new ArrayList<>();
        add(calls, "person(4, 0)", x -> x.person(4, 0));
        add(calls, "person(0, 0)", x -> x.person(0, 0));
        add(calls, "turn(2, 0, 0)", x -> x.turn(2, 0, 0));
        add(calls, "turn(0, 5, 12)", x -> x.turn(0, 5, 12));
        add(calls, "turn(0, 12, 5)", x -> x.turn(0, 12, 5));
        add(calls, "paper(21, 5)", x -> x.paper(21, 5));
        add(calls, "paper(5, 300)", x -> x.paper(5, 300));
        add(calls, "look(2)", x -> x.look(2));
        add(calls, "look(-2)", x -> x.look(-2));
        add(calls, "sheet(2)", x -> x.sheet(2));
        add(calls, "draw(3, 0)", x -> x.draw(3, 0));
        add(calls, "draw(1, 12)", x -> x.draw(1, 12));
        add(calls, "draw(0, 0), drawn", x -> x.draw(0, 0));
        add(calls, "tear(3)", x -> x.tear(3));
        add(calls, "verdict(2)", x -> x.verdict(2));
        add(calls, "sell(0, 1)", x -> x.sell(0, 1));
        add(calls, "sell(3, 0)", x -> x.sell(3, 0));
        add(calls, "sell(1, 0), empty", x -> x.sell(1, 0));
        add(calls, "sell(2, 0), wet", x -> x.sell(2, 0));
        add(calls, "pass(0)", x -> x.pass(0));
        add(calls, "pass(301)", x -> x.pass(301));
        add(calls, "set(0, 201)", x -> x.set(0, 201));
        add(calls, "set(1, 61)", x -> x.set(1, 61));
        add(calls, "set(2, 30)", x -> x.set(2, 30));
        return calls;
    }

    /** Calls behind which a limit is reached, each named after what is refused then. */
    private static List<Call> limited() {
        List<Call> calls = new ArrayList<>();
        add(calls, "a seventh person", x -> {
            for (int seat = 0; seat < 4; seat++) {
                x.person(3, seat);
            }
            return 0;
        });
        add(calls, "a fifth paper", x -> x.paper(1, 1) + x.paper(1, 1) + x.paper(1, 1));
        add(calls, "an eleventh sheet", x -> {
            for (int i = 0; i < 7; i++) {
                x.sheet(0);
            }
            return 0;
        });
        add(calls, "a fourth feature", x -> x.draw(1, 0) + x.draw(1, 1) + x.draw(1, 2));
        add(calls, "a minute above 9999", x -> {
            passTo(x, 9999);
            return 0;
        });
        return calls;
    }

    /** The call that has reached its limit behind the calls of limited(). */
    private static int callAboveLimit(CourtJotter x, int which) {
        switch (which) {
            case 0: return x.person(3, 5);
            case 1: return x.paper(1, 1);
            case 2: return x.sheet(0);
            case 3: return x.draw(1, 3);
            default: return x.pass(1);
        }
    }

    private void dueSame(String call, String got, String want) {
        due(call + ": all is as it was", got.equals(want) ? 1 : 0, 1);
    }

    // ---- Changes and errors

    private void changesAreTheCallsThatReturnNoError() {
        says("Changes and errors", "The changes are the calls of person, turn, paper, look, sheet, draw, tear, "
                + "verdict, sell, pass, set and play that return no error.");
        for (Call change : changes()) {
            CourtJotter x = courtOfThreeStates();
            due(change.name + " ahead", x.count(11), 3);
            due(change.name + " is no error", change.call.applyAsInt(x) < 0 ? 1 : 0, 0);
            due(change.name + " is a change", x.count(11), 4);
        }
        for (Call call : refused()) {
            CourtJotter x = courtOfThreeStates();
            due(call.name + " is an error", call.call.applyAsInt(x) < 0 ? 1 : 0, 1);
            due(call.name + " is no change", x.count(11), 3);
        }
        CourtJotter x = courtOfThreeStates();
        Snapshot.of(x);
        x.type('x');
        x.fault(0);
        x.play();
        x.clearText();
        due("questions and texts are no changes", x.count(11), 3);
    }

    private void aHistoryOfAtMostFourStates() {
        says("Changes and errors", "A history of at most 4 states is kept");
        CourtJotter x = new CourtJotter();
        for (int i = 1; i <= 9; i++) {
            x.set(0, i);
            due("states with change " + i, x.count(11), Math.min(i, 4));
        }
        for (int i = 1; i <= 4; i++) {
            due("undo() " + i, x.undo(), 4 - i);
            due("setting", x.count(20), 9 - i);
        }
        due("a fifth", x.undo(), NOT_POSSIBLE);
        due("setting", x.count(20), 5);
    }

    private void eachChangeRecordsEverythingButTheText() {
        says("Changes and errors", ": each change records everything before it but the text");
        for (Call change : changes()) {
            CourtJotter x = court();
            String before = Snapshot.of(x);
            change.call.applyAsInt(x);
            x.type('m');
            due("undo() of " + change.name, x.undo(), 3);
            dueSame("undo() of " + change.name, Snapshot.of(x), before);
            due("the text is not undone", x.count(12), 1);
        }
        CourtJotter x = one();
        x.type('m');
        x.look(0);
        x.clearText();
        x.undo();
        due("the text does not come back", x.count(12), 0);
    }

    private void withFiveStatesTheOldestIsDropped() {
        says("Changes and errors", ", and if there are 5 states then, the oldest one is dropped.");
        for (int changes = 4; changes <= 7; changes++) {
            CourtJotter x = new CourtJotter();
            for (int i = 1; i <= changes; i++) {
                x.set(1, 20 + i);
            }
            for (int i = 0; i < 4; i++) {
                x.undo();
            }
            due("the oldest left of " + changes, x.count(21), changes == 4 ? 10 : 20 + changes - 4);
            due("those ahead of it are dropped", x.undo(), NOT_POSSIBLE);
        }
        CourtJotter x = new CourtJotter();
        for (int i = 1; i <= 5; i++) {
            x.set(1, i);
        }
        x.undo();
        x.undo();
        for (int i = 11; i <= 12; i++) {
            x.set(1, i);
        }
        due("four again, none is dropped", x.count(11), 4);
        int[] values = {11, 3, 2, 1};
        for (int value : values) {
            x.undo();
            due("back", x.count(21), value);
        }
        due("that is all", x.undo(), NOT_POSSIBLE);
    }

    private void invalidRatherThanNotPossible() {
        says("Changes and errors", "If several errors apply to a call, INVALID_ARGUMENT is returned rather than "
                + "NOT_POSSIBLE");
        CourtJotter x = court();
        x.verdict(0);
        due("a verdict for nobody", x.verdict(2), INVALID);
        due("an empty sheet, no paper", x.sell(1, 1), INVALID);
        due("no sheet, a paper", x.sell(3, 0), INVALID);
        due("no feature of a face", x.draw(1, -1), INVALID);
        due("no sheet, a drawn feature", x.draw(3, 0), INVALID);
        due("a taken row, no seat", x.person(0, 6), INVALID);
    }

    private void notPossibleRatherThanLimit() {
        says("Changes and errors", ", NOT_POSSIBLE rather than LIMIT_REACHED");
        CourtJotter x = court();
        for (int feature = 0; feature < 3; feature++) {
            x.draw(1, feature);
        }
        due("the fourth in the minute", x.draw(1, 3), LIMIT);
        due("a drawn one as the fourth", x.draw(1, 0), NOT_POSSIBLE);
        x.set(0, 1);
        due("a forgotten one as the fourth", x.draw(1, 3), NOT_POSSIBLE);
        for (int seat = 1; seat < 5; seat++) {
            x.person(3, seat);
        }
        due("a seventh person", x.person(3, 5), LIMIT);
        due("a seventh on a taken seat", x.person(3, 4), NOT_POSSIBLE);
    }

    private void invalidRatherThanNotFoundAndLimit() {
        says("Changes and errors", ", and LIMIT_REACHED rather than NOT_FOUND.");
        CourtJotter x = new CourtJotter();
        due("number(-1) of none", x.number(-1), INVALID);
        due("best(3) of none", x.best(3), INVALID);
        due("fault(3) of none", x.fault(3), INVALID);
        due("seenIn(0, 12) of nobody", x.seenIn(0, 12), INVALID);
        write(x, "                                                            ");
        due("a 61st character out of its range", x.type(31), INVALID);
        due("a 61st character", x.type(32), LIMIT);
        for (int i = 0; i < 4; i++) {
            x.paper(1, 1);
        }
        due("a fifth paper out of its range", x.paper(1, 0), INVALID);
        due("a fifth paper", x.paper(1, 1), LIMIT);
        for (int i = 0; i < 6; i++) {
            x.person(0, i);
        }
        due("a seventh person out of the rows", x.person(4, 0), INVALID);
        for (int i = 0; i < 10; i++) {
            x.sheet(0);
        }
        due("an eleventh sheet of nobody", x.sheet(6), INVALID);
        due("an eleventh sheet", x.sheet(0), LIMIT);
        passTo(x, 9999);
        due("301 minutes behind the last", x.pass(301), INVALID);
        due("no minutes behind the last", x.pass(0), INVALID);
        due("one minute behind the last", x.pass(1), LIMIT);
    }

    private static CourtJotter atLimit(Call limit) {
        CourtJotter x = court();
        limit.call.applyAsInt(x);
        return x;
    }

    private static CourtJotter aboveLimit(Call limit, int which) {
        CourtJotter x = atLimit(limit);
        callAboveLimit(x, which);
        return x;
    }

    private static CourtJotter undoneFourTimes(CourtJotter x) {
        for (int i = 0; i < 4; i++) {
            x.undo();
        }
        return x;
    }

    private void anErrorChangesNothing() {
        says("Changes and errors", "A call that returns an error changes nothing.");
        String before = Snapshot.of(court());
        String further = Snapshot.of(undoneFourTimes(court()));
        for (Call call : refused()) {
            CourtJotter x = court();
            call.call.applyAsInt(x);
            dueSame(call.name, Snapshot.of(x), before);
            dueSame(call.name + ", and the history", Snapshot.of(undoneFourTimes(x)), further);
        }
        List<Call> limited = limited();
        for (int i = 0; i < limited.size(); i++) {
            Call limit = limited.get(i);
            due(limit.name, callAboveLimit(atLimit(limit), i), LIMIT);
            dueSame(limit.name, Snapshot.of(aboveLimit(limit, i)), Snapshot.of(atLimit(limit)));
            dueSame(limit.name + ", and the history", Snapshot.of(undoneFourTimes(aboveLimit(limit, i))),
                    Snapshot.of(undoneFourTimes(atLimit(limit))));
        }
        CourtJotter empty = one();
        empty.undo();
        due("undo() of an empty history", empty.undo(), NOT_POSSIBLE);
        dueSame("undo() of an empty history", Snapshot.of(empty), Snapshot.of(new CourtJotter()));
    }

    private void noPersonSheetOrPaperIsInvalid() {
        says("Changes and errors", "If there is no person, sheet (any more) or paper with a certain number, this "
                + "is INVALID_ARGUMENT.");
        CourtJotter x = known();
        x.person(1, 0);
        x.paper(9, 5);
        for (int i = 0; i < 3; i++) {
            drawnSheet(x, 0, 1);
        }
        x.tear(1);
        x.sell(2, 0);
        for (int person : new int[] {2, -2, MIN, MAX}) {
            due("turn", x.turn(person, 0, 0), INVALID);
            due("look", x.look(person), INVALID);
            due("sheet", x.sheet(person), INVALID);
            due("verdict", x.verdict(person), INVALID);
            due("personOf", x.personOf(person, 0), INVALID);
            due("seenIn", x.seenIn(person, 0), INVALID);
            due("would", x.would(person, 0), INVALID);
        }
        for (int sheet : new int[] {1, 2, 3, -1, MIN, MAX}) {
            due("draw on " + sheet, x.draw(sheet, 0), INVALID);
            due("tear of " + sheet, x.tear(sheet), INVALID);
            due("sell of " + sheet, x.sell(sheet, 0), INVALID);
            due("sheetOf of " + sheet, x.sheetOf(sheet, 0), INVALID);
            due("price of " + sheet, x.price(sheet, 0), INVALID);
        }
        for (int paper : new int[] {1, -1, MIN, MAX}) {
            due("sell to " + paper, x.sell(0, paper), INVALID);
            due("paperOf of " + paper, x.paperOf(paper, 0), INVALID);
            due("price for " + paper, x.price(0, paper), INVALID);
        }
    }

    private void theConstants() {
        says("Changes and errors", "The constants: `INVALID_ARGUMENT = -1000001`: An argument is out of its range, "
                + "or there is no such person, sheet or paper.");
        due("out of its range", new CourtJotter().pass(0), -1000001);
        due("no such person", new CourtJotter().verdict(0), -1000001);
        due("no such sheet", one().tear(0), -1000001);
        due("no such paper", one().paperOf(0, 0), -1000001);
        says("Changes and errors", "`NOT_POSSIBLE = -1000002`: The call is not possible in the present state.");
        due("an empty history", new CourtJotter().undo(), -1000002);
        says("Changes and errors", "`LIMIT_REACHED = -1000003`: A fixed limit has been reached.");
        CourtJotter x = new CourtJotter();
        passTo(x, 9999);
        due("the last minute", x.pass(1), -1000003);
        says("Changes and errors", "`NOT_FOUND = -1000004`: There is no such value.");
        due("none is sold", new CourtJotter().mean(), -1000004);
    }

    // ---- Promise 24

    private void promise24RestoresTheLatestStateWhichIsRemoved() {
        says("Promise 24", "Restores the latest state of the history, which is removed from it.");
        CourtJotter x = court();
        String before = Snapshot.of(x);
        x.look(0);
        String looking = Snapshot.of(x);
        x.pass(300);
        x.undo();
        dueSame("the latest", Snapshot.of(x), looking);
        x.undo();
        dueSame("the one ahead of it", Snapshot.of(x), before);
        due("they are removed", x.count(11), 2);
        CourtJotter y = one();
        y.sheet(0);
        y.undo();
        due("a number that was undone comes again", y.sheet(0), 0);
        due("sheets so far", y.count(3), 1);
    }

    private void promise24ReturnsTheNumberOfStatesLeft() {
        says("Promise 24", "Returns the number of states that are left in the history");
        for (int changes = 1; changes <= 6; changes++) {
            CourtJotter x = new CourtJotter();
            for (int i = 0; i < changes; i++) {
                x.look(-1);
            }
            for (int left = Math.min(changes, 4) - 1; left >= 0; left--) {
                due("left of " + changes, x.undo(), left);
                due("states", x.count(11), left);
            }
        }
    }

    private void promise24NotPossibleIfItIsEmpty() {
        says("Promise 24", "NOT_POSSIBLE if it is empty.");
        CourtJotter x = new CourtJotter();
        due("a new object", x.undo(), NOT_POSSIBLE);
        due("person(4, 0)", x.person(4, 0), INVALID);
        due("behind an error", x.undo(), NOT_POSSIBLE);
        x.person(0, 0);
        due("the only one", x.undo(), 0);
        due("it is gone", x.undo(), NOT_POSSIBLE);
        due("still gone", x.undo(), NOT_POSSIBLE);
        due("a change again", x.person(0, 0), 0);
        due("it can be undone", x.undo(), 0);
    }
}
