import java.io.File;
import java.io.IOException;
import java.lang.reflect.Method;
import java.nio.file.Files;
import java.nio.file.Path;
import java.util.ArrayList;
import java.util.Arrays;
import java.util.HashMap;
import java.util.List;
import java.util.Map;
import java.util.regex.Matcher;
import java.util.regex.Pattern;

/**
 * That the boundary tests quote the document word by word, and that no line of
 * it that names arguments, exceptions or what is returned, nor a paragraph of
 * its terms, is without a test. Started in the project's folder.
 */
public final class SentencesTest {

    private static final Path DOCUMENT = Path.of("..", "shared", "DOC.md");
    private static final Path TESTS = Path.of("src", "test", "java");
    private static final Pattern PROMISE = Pattern.compile("## Promise (\\d+): .*");

    /** Paragraphs of the terms that name no boundary case. */
    private static final List<String> WITHOUT_BOUNDARY = List.of(
        "All numbers are integers, but for two shares.",
        "Ahead of the calls ");

    private static final Checks checks = new Checks("SentencesTest");

    /** The lines of the document ahead of the promises, as 0, and of each promise, as its number. */
    private static Map<Integer, List<String>> linesOf(List<String> document) {
        Map<Integer, List<String>> lines = new HashMap<>();
        int promise = 0;
        for (String line : document) {
            Matcher heading = PROMISE.matcher(line);
            if (heading.matches()) {
                promise = Integer.parseInt(heading.group(1));
            } else if (line.startsWith("## Not promised")) {
                break;
            }
            lines.computeIfAbsent(promise, number -> new ArrayList<>()).add(line);
        }
        return lines;
    }

    private static List<Sentence> quoted() throws ClassNotFoundException {
        File[] files = TESTS.toFile().listFiles((folder, name) -> name.endsWith("BoundaryTest.java"));
        Arrays.sort(files);
        List<Sentence> found = new ArrayList<>();
        for (File file : files) {
            for (Method test : Sentences.testsOf(Class.forName(file.getName().replace(".java", "")))) {
                found.add(test.getAnnotation(Sentence.class));
            }
        }
        return found;
    }

    private static boolean isQuoted(String line, int promise, List<Sentence> quoted) {
        for (Sentence one : quoted) {
            if (one.promise() == promise && line.contains(one.says())) {
                return true;
            }
        }
        return false;
    }

    private static boolean stands(Sentence one, List<String> lines) {
        for (String line : lines) {
            if (line.contains(one.says())) {
                return true;
            }
        }
        return false;
    }

    /** Whether a line of the document needs a test. */
    private static boolean isTested(String line, int promise, boolean inTerms) {
        if (promise > 0) {
            return line.startsWith("- `") || line.startsWith("Throws `") || line.startsWith("Returns ");
        }
        for (String start : WITHOUT_BOUNDARY) {
            if (line.startsWith(start)) {
                return false;
            }
        }
        // Paragraphs end with a point or with what follows a colon; a line without either is a heading.
        return inTerms && !line.startsWith("#") && line.contains(" ") && line.matches(".*[.:].*");
    }

    private static void checkLines(int promise, List<String> lines, List<Sentence> quoted) {
        boolean inTerms = false;
        for (String line : lines) {
            inTerms |= line.equals("## Terms");
            if (isTested(line, promise, inTerms)) {
                checks.same("promise " + promise + ", a test of: " + line, isQuoted(line, promise, quoted), true);
            }
        }
    }

    public static void main(String[] args) throws IOException, ClassNotFoundException {
        if (!Files.exists(DOCUMENT)) {
            System.out.println("SentencesTest: there is no " + DOCUMENT + " to compare with");
            return;
        }
        Map<Integer, List<String>> lines = linesOf(Files.readAllLines(DOCUMENT));
        List<Sentence> quoted = quoted();
        for (Sentence one : quoted) {
            checks.same("promise " + one.promise() + " says: " + one.says(),
                stands(one, lines.getOrDefault(one.promise(), List.of())), true);
        }
        for (int promise : lines.keySet()) {
            checkLines(promise, lines.get(promise), quoted);
        }
        checks.close();
    }
}
