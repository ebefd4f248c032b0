import java.io.File;
import java.io.IOException;
import java.lang.reflect.Method;
import java.nio.file.Files;
import java.nio.file.Path;
import java.util.ArrayList;
import java.util.Arrays;
import java.util.HashMap;
import java.util.List;
import java.util.Map;
import java.util.regex.Matcher;
import java.util.regex.Pattern;

/**
 * That the boundary tests quote the document word by word, and that none of
 * its words are left, but for those that name no boundary case, and for the
 * face and the signatures, which FaceTest reads. Started in the project's
 * folder.
 */
public final class SentencesTest {

    private static final Path DOCUMENT = Path.of("..", "shared", "DOC.md");
    private static final Path TESTS = Path.of("src", "test", "java");
    private static final Pattern PROMISE = Pattern.compile("## Promise (\\d+): .*");
    private static final String SIGNATURE = "^`[^`]*\\)[^`]*`: ";
    private static final String BETWEEN = "[ ,;:.]+";

    /** How those words begin that name no boundary case, or none that the words behind them do not name. */
    private static final List<String> WITHOUT_BOUNDARY = List.of(
        "Rows of an outbox that are sent on by a relay",
        "All numbers are integers, but for two shares",
        "Transactions, rows",
        "The constants",
        "Ahead of the calls `begin`",
        "Ahead of the calls `want`",
        "Ahead of the calls `append`",
        "- `what`",
        "Tells something of ",
        "Returns a number",
        "Returns a setting",
        "Finds the receiver that is farthest behind",
        "Returns how many messages came",
        "Returns how many rows there were in a batch");

    private static final Checks checks = new Checks("SentencesTest");

    /** The lines of the document ahead of the promises, as 0, and of each promise, as its number. */
    private static Map<Integer, List<String>> linesOf(List<String> document) {
        Map<Integer, List<String>> lines = new HashMap<>();
        int promise = 0;
        boolean inCode = false;
        for (String line : document) {
            Matcher heading = PROMISE.matcher(line);
            if (heading.matches()) {
                promise = Integer.parseInt(heading.group(1));
            } else if (line.startsWith("## Not promised")) {
                break;
            }
            boolean isFence = line.startsWith("```");
            inCode ^= isFence;
            if (!inCode && !isFence && !line.startsWith("#")) {
                lines.computeIfAbsent(promise, number -> new ArrayList<>()).add(line.replaceFirst(SIGNATURE, ""));
            }
        }
        return lines;
    }

    private static List<Sentence> quoted() throws ClassNotFoundException {
        File[] files = TESTS.toFile().listFiles((folder, name) -> name.endsWith("BoundaryTest.java"));
        Arrays.sort(files);
        List<Sentence> found = new ArrayList<>();
        for (File file : files) {
            for (Method test : Sentences.testsOf(Class.forName(file.getName().replace(".java", "")))) {
                found.add(test.getAnnotation(Sentence.class));
            }
        }
        return found;
    }

    private static boolean stands(Sentence one, List<String> lines) {
        for (String line : lines) {
            if (line.contains(one.says())) {
                return true;
            }
        }
        return false;
    }

    /** The words of a line that no test of this promise quotes. */
    private static List<String> unquoted(String line, int promise, List<Sentence> quoted) {
        StringBuilder left = new StringBuilder(line);
        for (Sentence one : quoted) {
            int at = one.promise() == promise ? line.indexOf(one.says()) : -1;
            for (int i = at; at >= 0 && i < at + one.says().length(); i++) {
                left.setCharAt(i, '\n');
            }
        }
        List<String> words = new ArrayList<>();
        for (String piece : left.toString().split("\n+")) {
            String bare = piece.replaceFirst("^" + BETWEEN, "").replaceFirst(BETWEEN + "$", "");
            if (!bare.isEmpty() && WITHOUT_BOUNDARY.stream().noneMatch(bare::startsWith)) {
                words.add(bare);
            }
        }
        return words;
    }

    private static void checkLines(int promise, List<String> lines, List<Sentence> quoted) {
        for (String line : lines) {
            checks.same("promise " + promise + ", words without a test", unquoted(line, promise, quoted), List.of());
        }
    }

    public static void main(String[] args) throws IOException, ClassNotFoundException {
        if (!Files.exists(DOCUMENT)) {
            System.out.println("SentencesTest: there is no " + DOCUMENT + " to compare with");
            return;
        }
        Map<Integer, List<String>> lines = linesOf(Files.readAllLines(DOCUMENT));
        List<Sentence> quoted = quoted();
        for (Sentence one : quoted) {
            checks.same("promise " + one.promise() + " says: " + one.says(),
                stands(one, lines.getOrDefault(one.promise(), List.of())), true);
        }
        for (int promise : lines.keySet()) {
            checkLines(promise, lines.get(promise), quoted);
        }
        checks.close();
    }
}
