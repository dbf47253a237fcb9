import java.io.IOException;
import java.nio.file.Path;

/**
 * A test for each sentence of the document that names a boundary case; each quotes its sentence. The
 * sentences that name none are listed here, so that every word of the document is in one or the other.
 */
public final class BoundaryTest {
    private static final String[] SECTIONS_WITHOUT_BOUNDARY = {"The public face", "Not promised"};

    private static final String[][] NO_BOUNDARY = {
        {"What it is", "A jotter of a court sketcher: people who turn, features of faces that are seen by the "
            + "angle, people who hide others, what is remembered and forgotten, sheets on which only what is "
            + "remembered can be drawn, ink that dries, verdicts by which faces are worth more for a day, papers "
            + "that buy dry sheets until their hour, prices, sheets that are torn out, what could be drawn now, "
            + "when somebody should be looked at, the best sale, what a day would bring, and orders as texts "
            + "with places, reasons and causes of faults."},
        {"What it is", "; what later calls answer is free."},
        {"Terms", "All numbers are whole numbers, where no float is told."},
        {"Terms", "People, faces"},
        {"Sheets", "Verdicts, papers"},
        {"Changes and errors", "Ahead of the calls `person`, `turn`, `paper` the interface says: ---- people, "
            + "papers."},
        {"Changes and errors", "Ahead of the calls `look`, `sheet`, `draw`, `tear`, `verdict`, `sell`, `pass`, "
            + "`set` the interface says: ---- sketching."},
        {"Changes and errors", "Ahead of the calls `personOf`, `sheetOf`, `paperOf`, `price`, `number` the "
            + "interface says: ---- what there is."},
        {"Changes and errors", "Ahead of the calls `seenIn`, `would`, `best`, `sellAll`, `mean`, `count`, `undo` "
            + "the interface says: ---- what would be."},
        {"Changes and errors", "Ahead of the calls `type`, `clearText`, `fault`, `play` the interface says: ---- "
            + "texts."},
        {"Promise 2", "`int person(int row, int seat)`: Adds a person."},
        {"Promise 3", "`int turn(int person, int angle, int step)`: Turns a person."},
        {"Promise 4", "`int paper(int rate, int hour)`: Adds a paper."},
        {"Promise 5", "`int look(int person)`: Looks at a person, or at nobody."},
        {"Promise 6", "`int sheet(int person)`: Begins a sheet of a person."},
        {"Promise 7", "`int draw(int sheet, int feature)`: Draws a feature on a sheet."},
        {"Promise 8", "`int tear(int sheet)`: "},
        {"Promise 9", "`int verdict(int person)`: "},
        {"Promise 10", "`int sell(int sheet, int paper)`: Sells a sheet to a paper."},
        {"Promise 11", "`int pass(int minutes)`: Lets minutes pass."},
        {"Promise 12", "`int set(int what, int value)`: "},
        {"Promise 13", "`int personOf(int person, int what)`: Returns something of a person."},
        {"Promise 13", "Returns the number; "},
        {"Promise 14", "`int sheetOf(int sheet, int what)`: Returns something of a sheet."},
        {"Promise 14", "Returns the number; "},
        {"Promise 15", "`int paperOf(int paper, int what)`: Returns something of a paper."},
        {"Promise 15", "Returns the number; "},
        {"Promise 16", "`int price(int sheet, int paper)`: "},
        {"Promise 17", "`int number(int index)`: Returns the number of a sheet in the jotter."},
        {"Promise 17", "Returns the sheet; "},
        {"Promise 18", "`int seenIn(int person, int feature)`: "},
        {"Promise 19", "`int would(int person, int minutes)`: "},
        {"Promise 20", "`int best(int what)`: "},
        {"Promise 20", "Returns the number; "},
        {"Promise 21", "`int sellAll()`: "},
        {"Promise 22", "`int mean()`: "},
        {"Promise 23", "`int count(int what)`: Returns a number."},
        {"Promise 23", "Returns the number; "},
        {"Promise 24", "`int undo()`: "},
        {"Promise 25", "`int type(int character)`: Appends a character to the text."},
        {"Promise 26", "`int clearText()`: Empties the text."},
        {"Promise 27", "`int fault(int what)`: Tells about the fault of the text."},
        {"Promise 27", "Returns that; "},
        {"Promise 28", "`int play()`: "},
    };

    private BoundaryTest() {
    }

    public static void main(String[] args) throws IOException {
        Sentences sentences = new Sentences(Path.of("../shared/DOC.md"));
        for (String section : SECTIONS_WITHOUT_BOUNDARY) {
            sentences.sectionNamesNoBoundary(section);
        }
        for (String[] words : NO_BOUNDARY) {
            sentences.namesNoBoundary(words[0], words[1]);
        }
        new BoundariesOfTerms(sentences).run();
        new BoundariesOfPeople(sentences).run();
        new BoundariesOfSketching(sentences).run();
        new BoundariesOfWhatThereIs(sentences).run();
        new BoundariesOfWhatWouldBe(sentences).run();
        new BoundariesOfChanges(sentences).run();
        new BoundariesOfTexts(sentences).run();
        sentences.end("BoundaryTest");
    }
}
