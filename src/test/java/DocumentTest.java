import java.io.File;
import java.io.IOException;
import java.lang.reflect.Method;
import java.nio.charset.StandardCharsets;
import java.nio.file.Files;
import java.nio.file.Path;
import java.util.ArrayList;
import java.util.LinkedHashMap;
import java.util.List;
import java.util.Map;

/** Each sentence of the document has a test that quotes it, and each quote stands in the document. */
final class DocumentTest {
    private static final Path DOCUMENT = Path.of("../shared/DOC.md");
    private static final File TESTS = new File("src/test/java");
    /** Chapters that FaceTest holds, or that promise nothing. */
    private static final List<String> OTHER_CHAPTERS = List.of("The public face", "Not promised");
    /** What only names the thing, or the face alone can hold. */
    private static final List<String> BARE = List.of(
        "Braided plots of a serial told by mails",
        "All numbers are integers, but for a share.",
        "Parts, plots",
        "the interface says: ---- parts.",
        "the interface says: ---- mails.",
        "the interface says: ---- texts.",
        "Returns the property.",
        "Returns the number.");

    private final Map<String, List<String>> chapters = new LinkedHashMap<>();
    private final List<Method> tests = new ArrayList<>();

    public static void main(String[] args) throws IOException, ClassNotFoundException {
        DocumentTest test = new DocumentTest();
        test.readDocument();
        test.findTests();
        test.eachQuoteStandsInTheDocument();
        test.eachSentenceHasATest();
        Checks.end();
    }

    private void readDocument() throws IOException {
        String chapter = "";
        boolean code = false;
        for (String line : Files.readAllLines(DOCUMENT, StandardCharsets.UTF_8)) {
            if (line.startsWith("```")) {
                code = !code;
            } else if (line.startsWith("## ")) {
                chapter = line.substring(3).replaceAll("(Promise \\d+):.*", "$1");
                chapters.put(chapter, new ArrayList<>());
            } else if (!code && !line.startsWith("#") && !line.isBlank()) {
                chapters.get(chapter).add(line);
            }
        }
    }

    /** Without the mark of a list's row, and without the head of a method; each property for itself. */
    private static String[] sentencesOf(String line) {
        if (line.startsWith("- `what`: ")) {
            return line.substring("- `what`: ".length()).split("; ");
        }
        String text = line.replaceAll("^- ", "").replaceAll("^`[^`]*\\)[^`]*`: ", "");
        return text.split("(?<=\\.\\)?) +(?=[A-Z(])");
    }

    private void findTests() throws ClassNotFoundException {
        String[] names = TESTS.list();
        Checks.due("the tests are found", true, names != null);
        for (String name : names == null ? new String[0] : names) {
            if (name.endsWith("Test.java")) {
                tests.addAll(Sentences.testsOf(Class.forName(name.replace(".java", ""))));
            }
        }
    }

    private void eachQuoteStandsInTheDocument() {
        for (Method test : tests) {
            Holds holds = test.getAnnotation(Holds.class);
            boolean found = false;
            for (String line : chapters.getOrDefault(holds.in(), List.of())) {
                found |= line.contains(holds.sentence());
            }
            Checks.due("the document says, " + Sentences.quote(test), true, found);
        }
    }

    private void eachSentenceHasATest() {
        for (Map.Entry<String, List<String>> chapter : chapters.entrySet()) {
            if (!OTHER_CHAPTERS.contains(chapter.getKey())) {
                for (String line : chapter.getValue()) {
                    eachSentenceHasATest(chapter.getKey(), line);
                }
            }
        }
    }

    private void eachSentenceHasATest(String chapter, String line) {
        for (String sentence : sentencesOf(line)) {
            if (!isBare(sentence)) {
                Checks.due(chapter + " has a test of: " + sentence, true, hasTest(chapter, sentence));
            }
        }
    }

    private static boolean isBare(String sentence) {
        for (String bare : BARE) {
            if (sentence.contains(bare)) {
                return true;
            }
        }
        return false;
    }

    private boolean hasTest(String chapter, String sentence) {
        for (Method test : tests) {
            Holds holds = test.getAnnotation(Holds.class);
            boolean quoted = sentence.contains(holds.sentence()) || holds.sentence().contains(sentence);
            if (quoted && holds.in().equals(chapter)) {
                return true;
            }
        }
        return false;
    }
}
