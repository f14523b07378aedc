import java.io.File;
import java.io.IOException;
import java.lang.reflect.Method;
import java.lang.reflect.Modifier;
import java.nio.charset.StandardCharsets;
import java.nio.file.Files;
import java.nio.file.Path;
import java.util.ArrayList;
import java.util.HashMap;
import java.util.List;
import java.util.Map;
import java.util.Set;
import java.util.TreeSet;
import java.util.regex.Matcher;
import java.util.regex.Pattern;

/** What README.md says of the class, of its calls and of the tests holds. */
final class ReadmeTest {
    private static final File TESTS = new File("src/test/java");
    private static final Pattern EXAMPLE = Pattern.compile("serial\\.(\\w+\\(.*\\)); +// (\\d+): .*");
    private static final Pattern CALL = Pattern.compile("\\| `(\\w+)\\((.*)\\)`( \\*)? \\|.*");
    private static final Pattern TEST = Pattern.compile("\\| `(\\w+Test)` \\|.*");

    private final List<String> lines;

    private ReadmeTest() throws IOException {
        lines = Files.readAllLines(Path.of("README.md"), StandardCharsets.UTF_8);
    }

    public static void main(String[] args) throws IOException {
        ReadmeTest test = new ReadmeTest();
        test.exampleAnswersAsItSays();
        test.callsAreThoseOfTheClass();
        test.callsWithAStarSave();
        test.testsAreThoseOfTheFolder();
        test.filesThatItNamesAreThere();
        Checks.end();
    }

    /** The rows of the page that have this form. */
    private List<Matcher> rows(Pattern form) {
        List<Matcher> found = new ArrayList<>();
        for (String line : lines) {
            Matcher row = form.matcher(line);
            if (row.matches()) {
                found.add(row);
            }
        }
        return found;
    }

    private void exampleAnswersAsItSays() {
        Checks.due("the example types a text", true,
            lines.contains("for (char c : \"0!0w25;1;01w40\".toCharArray()) {"));
        SerialRecaps serial = Scenes.typed("0!0w25;1;01w40");
        List<String> answers = List.of(
            "firstError() " + serial.firstError(),
            "addAll() " + serial.addAll(),
            "recap(2, 2, 4) " + serial.recap(2, 2, 4),
            "mail(2, 2) " + serial.mail(2, 2),
            "knows(2, 1) " + serial.knows(2, 1),
            "reader(2, 4) " + serial.reader(2, 4),
            "reader(2, 3) " + serial.reader(2, 3),
            "undo() " + serial.undo(),
            "knows(2, 1) " + serial.knows(2, 1));
        List<String> told = new ArrayList<>();
        for (Matcher row : rows(EXAMPLE)) {
            told.add(row.group(1) + " " + row.group(2));
        }
        Checks.due("the example", answers, told);
    }

    private void callsAreThoseOfTheClass() {
        Set<String> told = new TreeSet<>();
        for (Matcher row : rows(CALL)) {
            int parameters = row.group(2).isEmpty() ? 0 : row.group(2).split(", ").length;
            told.add(row.group(1) + " with " + parameters);
        }
        Set<String> there = new TreeSet<>();
        for (Method m : SerialRecaps.class.getDeclaredMethods()) {
            if (Modifier.isPublic(m.getModifiers())) {
                there.add(m.getName() + " with " + m.getParameterCount());
            }
        }
        Checks.due("the calls", there, told);
    }

    private void callsWithAStarSave() {
        Map<String, Refusals.Ask> calls = rightCalls();
        for (Matcher row : rows(CALL)) {
            String name = row.group(1);
            SerialRecaps x = Scenes.calm();
            x.clearBuffer();
            x.append('0');
            int before = x.count(6);
            Refusals.Ask call = calls.get(name);
            Checks.due(name + " answers", true, call != null && Checks.outcome(() -> call.of(x)) instanceof Number);
            Checks.due(name + " saves a state", row.group(3) != null, x.count(6) == before + 1);
        }
    }

    /** For each name a call that Scenes.calm does not refuse, if its buffer holds one part. */
    private static Map<String, Refusals.Ask> rightCalls() {
        Map<String, Refusals.Ask> calls = new HashMap<>();
        calls.put("add", x -> x.add(1, 0, 10));
        calls.put("change", x -> x.change(0, 1, 0));
        calls.put("removeLast", SerialRecaps::removeLast);
        calls.put("set", x -> x.set(0, 4));
        calls.put("mail", x -> x.mail(3, 0));
        calls.put("mailAll", x -> x.mailAll(0, 63));
        calls.put("forget", x -> x.forget(0));
        calls.put("catchUp", x -> x.catchUp(0));
        calls.put("append", x -> x.append('5'));
        calls.put("clearBuffer", SerialRecaps::clearBuffer);
        calls.put("firstError", SerialRecaps::firstError);
        calls.put("addAll", SerialRecaps::addAll);
        calls.put("undo", SerialRecaps::undo);
        calls.put("part", x -> x.part(0, 0));
        calls.put("knows", x -> x.knows(0, 0));
        calls.put("reader", x -> x.reader(0, 0));
        calls.put("plot", x -> x.plot(0, 0));
        calls.put("count", x -> x.count(0));
        calls.put("setting", x -> x.setting(0));
        calls.put("recap", x -> x.recap(0, 0, 0));
        calls.put("easiest", x -> x.easiest(0));
        calls.put("enough", x -> x.enough(0));
        calls.put("readShare", SerialRecaps::readShare);
        calls.put("digest", SerialRecaps::digest);
        return calls;
    }

    private void testsAreThoseOfTheFolder() {
        Set<String> told = new TreeSet<>();
        for (Matcher row : rows(TEST)) {
            told.add(row.group(1) + ".java");
        }
        Set<String> there = new TreeSet<>();
        String[] names = TESTS.list();
        for (String name : names == null ? new String[0] : names) {
            if (name.endsWith("Test.java")) {
                there.add(name);
            }
        }
        Checks.due("the tests", there, told);
    }

    private void filesThatItNamesAreThere() {
        String page = String.join("\n", lines);
        for (String name : new String[] {".ci/run", "src/main/java/SerialRecaps.java", "../shared/DOC.md",
            "../shared/LANGUAGE.md", "../shared/tests"}) {
            Checks.due("README.md names " + name, true, page.contains(name));
            Checks.due(name + " is there", true, new File(name).exists());
        }
        Checks.due(".ci/run can be run", true, new File(".ci/run").canExecute());
    }
}
