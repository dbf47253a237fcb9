import java.io.IOException;
import java.lang.reflect.Method;
import java.lang.reflect.Modifier;
import java.nio.file.Files;
import java.nio.file.Path;
import java.util.ArrayList;
import java.util.List;

/** The examples of README.md, line by line, with the answers that it tells. */
public final class ReadmeTest {
    private static final Path PAGE = Path.of("README.md");
    private static final Path THIS_FILE = Path.of("src/test/java/ReadmeTest.java");
    private static final Check CHECK = new Check();

    public static void main(String[] args) throws IOException {
        examples();
        examplesAreThoseOfThePage();
        pageNamesEveryCall();
        CHECK.end("ReadmeTest");
    }

    private static void examples() {
        CourtJotter court = new CourtJotter();
        int person = court.person(0, 0);       // 0: the first person, in row 0 and seat 0
        court.turn(person, 0, 1);              // angle 0, a step of 1 each minute
        int paper = court.paper(10, 100);      // 0: the first paper, of rate 10, until the hour 100
        court.look(person);
        court.pass(3);                         // three minutes; what is seen then is remembered
        int sheet = court.sheet(person);       // 0: the first sheet
        court.draw(sheet, 0);
        court.pass(10);                        // the ink dries
        int paid = court.sell(sheet, paper);   // 10: the rate times one feature

        CHECK.due("README", "person", person, 0);
        CHECK.due("README", "paper", paper, 0);
        CHECK.due("README", "sheet", sheet, 0);
        CHECK.due("README", "sell", paid, 10);

        String orders = "b0;d1,5;m10;s1,0;";   // begin a sheet, draw on it, wait, sell it
        for (int i = 0; i < orders.length(); i++) {
            court.type(orders.charAt(i));
        }
        int place = court.fault(0);            // 12: the order that begins there, "s1,0;",
        int reason = court.fault(1);           // 2: has the right form but can't be done,
        int cause = court.fault(2);            // NOT_POSSIBLE: the paper bought one of this person today
        int refused = court.play();            // NOT_POSSIBLE: so none of them is done

        court.clearText();
        orders = "b0;d1,5;m10;";
        for (int i = 0; i < orders.length(); i++) {
            court.type(orders.charAt(i));
        }
        int done = court.play();               // 3 orders
        int left = court.undo();               // 3 states are left; all 3 orders are taken back

        CHECK.due("README", "fault(0)", place, 12);
        CHECK.due("README", "fault(1)", reason, 2);
        CHECK.due("README", "fault(2)", cause, CourtJotter.NOT_POSSIBLE);
        CHECK.due("README", "play() with a fault", refused, CourtJotter.NOT_POSSIBLE);
        CHECK.due("README", "play()", done, 3);
        CHECK.due("README", "undo()", left, 3);
        CHECK.due("README", "minutes, taken back", court.count(4), 13);
        CHECK.due("README", "sheets, taken back", court.count(3), 1);
    }

    /** A page whose examples are others than those above would tell what nobody has run. */
    private static void examplesAreThoseOfThePage() throws IOException {
        String here = String.join("\n", trimmed(Files.readAllLines(THIS_FILE)));
        List<String> block = null;
        int blocks = 0;
        for (String line : trimmed(Files.readAllLines(PAGE))) {
            if (line.equals("```java")) {
                block = new ArrayList<>();
            } else if (line.equals("```") && block != null) {
                boolean stands = here.contains("\n" + String.join("\n", block) + "\n");
                CHECK.due("README", "example from \"" + block.get(0) + "\" on is run", stands ? 1 : 0, 1);
                block = null;
                blocks++;
            } else if (block != null) {
                block.add(line);
            }
        }
        CHECK.due("README", "examples", blocks, 2);
    }

    private static List<String> trimmed(List<String> lines) {
        List<String> result = new ArrayList<>();
        for (String line : lines) {
            result.add(line.trim());
        }
        return result;
    }

    private static void pageNamesEveryCall() throws IOException {
        String page = Files.readString(PAGE);
        for (Method method : CourtJotter.class.getDeclaredMethods()) {
            if (Modifier.isPublic(method.getModifiers())) {
                boolean named = page.contains("`" + method.getName() + "(");
                CHECK.due("README", method.getName() + " is named", named ? 1 : 0, 1);
            }
        }
    }
}
