import java.io.IOException;
import java.lang.reflect.Constructor;
import java.lang.reflect.Field;
import java.lang.reflect.Method;
import java.lang.reflect.Modifier;
import java.nio.file.Files;
import java.nio.file.Path;
import java.util.ArrayList;
import java.util.Arrays;
import java.util.List;
import java.util.regex.Pattern;

/** The face of the document, and the rules of LANGUAGE.md that a look at the file can tell. */
public final class LanguageTest {
    private static final String[] FACE = {"person 2", "turn 3", "paper 2", "look 1", "sheet 1", "draw 2",
        "tear 1", "verdict 1", "sell 2", "pass 1", "set 2", "personOf 2", "sheetOf 2", "paperOf 2", "price 2",
        "number 1", "seenIn 2", "would 2", "best 1", "sellAll 0", "mean 0", "count 1", "undo 0", "type 1",
        "clearText 0", "fault 1", "play 0"};
    private static final String[] CONSTANTS = {"INVALID_ARGUMENT", "NOT_POSSIBLE", "LIMIT_REACHED", "NOT_FOUND"};
    private static final String[] NOT_IN_FILE = {"->", "::", "\\bimport\\b", "\\bpackage\\b", "\\btry\\b",
        "\\bcatch\\b", "\\bthrow\\b", "\\bfinally\\b", "\\bsynchronized\\b", "\\bassert\\b", "\\binstanceof\\b",
        "\\bprotected\\b", "\\bdouble\\b", "\\bSystem\\.(?!arraycopy\\()", "\\bFloat\\b", "\\bString\\b"};
    private static final Check CHECK = new Check();

    private static void due(String call, long got, long want) {
        CHECK.due("the language", call, got, want);
    }

    public static void main(String[] args) throws IOException {
        due("public and final", CourtJotter.class.getModifiers(), Modifier.PUBLIC | Modifier.FINAL);
        methods();
        constants();
        constructors();
        insideClasses();
        source();
        CHECK.end("LanguageTest");
    }

    private static void methods() {
        List<String> face = new ArrayList<>();
        List<String> names = new ArrayList<>();
        for (String method : FACE) {
            names.add(method.substring(0, method.indexOf(' ')));
        }
        for (Method method : CourtJotter.class.getDeclaredMethods()) {
            String told = method.getName() + " " + method.getParameterCount();
            if (Modifier.isPrivate(method.getModifiers())) {
                due("private " + told, names.contains(method.getName()) ? 1 : 0, 0);
            } else {
                face.add(told);
                due("modifiers of " + told, method.getModifiers(), Modifier.PUBLIC);
                due("int " + told, method.getReturnType() == int.class ? 1 : 0, 1);
                for (Class<?> kind : method.getParameterTypes()) {
                    due("parameters of " + told, kind == int.class ? 1 : 0, 1);
                }
            }
        }
        for (String method : FACE) {
            due("there is " + method, face.contains(method) ? 1 : 0, 1);
        }
        due("methods", face.size(), FACE.length);
    }

    private static void constants() {
        int open = 0;
        for (Field field : CourtJotter.class.getDeclaredFields()) {
            if (!Modifier.isPrivate(field.getModifiers())) {
                open++;
                due("there is " + field.getName(), Arrays.asList(CONSTANTS).contains(field.getName()) ? 1 : 0, 1);
                due("modifiers of " + field.getName(), field.getModifiers(),
                        Modifier.PUBLIC | Modifier.STATIC | Modifier.FINAL);
            }
        }
        due("constants", open, CONSTANTS.length);
        due("INVALID_ARGUMENT", CourtJotter.INVALID_ARGUMENT, -1000001);
        due("NOT_POSSIBLE", CourtJotter.NOT_POSSIBLE, -1000002);
        due("LIMIT_REACHED", CourtJotter.LIMIT_REACHED, -1000003);
        due("NOT_FOUND", CourtJotter.NOT_FOUND, -1000004);
    }

    private static void constructors() {
        Constructor<?>[] all = CourtJotter.class.getDeclaredConstructors();
        due("constructors", all.length, 1);
        due("its parameters", all[0].getParameterCount(), 0);
        due("its modifiers", all[0].getModifiers(), Modifier.PUBLIC);
    }

    private static void insideClasses() {
        Class<?>[] inside = CourtJotter.class.getDeclaredClasses();
        due("at most twelve classes", inside.length <= 12 ? 1 : 0, 1);
        for (Class<?> one : inside) {
            due(one.getName() + " is private, static, final", one.getModifiers(),
                    Modifier.PRIVATE | Modifier.STATIC | Modifier.FINAL);
            due(one.getName() + " has at most twenty fields", one.getDeclaredFields().length <= 20 ? 1 : 0, 1);
        }
    }

    private static void source() throws IOException {
        String source = Files.readString(Path.of("src/main/java/CourtJotter.java"));
        String code = source.replaceAll("(?s)/\\*.*?\\*/", " ").replaceAll("//[^\n]*", " ");
        for (String word : NOT_IN_FILE) {
            due("no " + word + " in the file", Pattern.compile(word).matcher(code).find() ? 1 : 0, 0);
        }
        due("plain signs only", source.chars().allMatch(c -> c == '\n' || c >= 32 && c < 127) ? 1 : 0, 1);
    }
}
