import java.io.IOException;
import java.nio.file.Files;
import java.nio.file.Path;
import java.util.ArrayList;
import java.util.HashSet;
import java.util.List;
import java.util.Set;
import java.util.TreeSet;
import java.util.regex.Matcher;
import java.util.regex.Pattern;

/** What of LANGUAGE.md can be seen in the program's text. Started in the project's folder. */
public final class LanguageTest {

    private static final Path PROGRAM = Path.of("src", "main", "java", "OutboxRelay.java");
    private static final Set<String> LIBRARY = Set.of("String", "StringBuilder", "Integer", "Long", "Math", "ArrayList",
        "List", "Iterator", "Iterable", "Comparable", "System", "Arrays", "Override", "IllegalStateException",
        "IllegalArgumentException", "IndexOutOfBoundsException", "ArithmeticException", "UnsupportedOperationException",
        "NoSuchElementException", "RuntimeException");
    private static final Set<String> FORBIDDEN = Set.of("package", "finally", "synchronized", "assert", "protected",
        "native", "volatile", "transient");
    private static final Pattern METHOD = Pattern.compile("^    (?:    )?[a-zA-Z][\\w\\[\\] ]* (\\w+)\\(([^)]*)\\)");

    public static void main(String[] args) throws IOException {
        Checks checks = new Checks("LanguageTest");
        String text = Files.readString(PROGRAM);
        checks.same("signs above 127", text.chars().filter(sign -> sign > 127).count(), 0L);
        String code = text.replaceAll("(?s)/\\*.*?\\*/", "").replaceAll("//[^\n]*", "").replaceAll("\"[^\"\n]*\"", "\"\"");
        checkWords(checks, code);
        checks.same("lambdas and arrows", code.contains("->"), false);
        checks.same("method references", code.contains("::"), false);
        checks.same("texts joined by +", code.contains("\" +") || code.contains("+ \""), false);
        checkStaticFields(checks, code);
        checkMethods(checks, text);
        checks.close();
    }

    private static void checkWords(Checks checks, String code) {
        Set<String> classes = new HashSet<>();
        Matcher made = Pattern.compile("\\b(?:class|record|enum|interface) (\\w+)").matcher(code);
        while (made.find()) {
            classes.add(made.group(1));
        }
        checks.same("some twelve classes at most", classes.size() <= 14, true);
        Set<String> strange = new TreeSet<>();
        Matcher words = Pattern.compile("\\b[A-Za-z_]\\w*").matcher(code);
        while (words.find()) {
            String word = words.group();
            boolean isClass = Character.isUpperCase(word.charAt(0)) && !word.equals(word.toUpperCase());
            if (FORBIDDEN.contains(word) || isClass && !classes.contains(word) && !LIBRARY.contains(word)) {
                strange.add(word);
            }
        }
        checks.same("words outside the language", strange, new TreeSet<String>());
        Matcher system = Pattern.compile("\\bSystem\\.(\\w+)").matcher(code);
        while (system.find()) {
            checks.same("of System", system.group(1), "arraycopy");
        }
    }

    private static void checkStaticFields(Checks checks, String code) {
        for (String line : code.split("\n")) {
            if (line.contains(" static ") && !line.contains("(") && !line.contains(" class ")) {
                checks.same("final in " + line.strip(), line.contains(" static final "), true);
            }
        }
    }

    private static void checkMethods(Checks checks, String text) {
        List<String> lines = new ArrayList<>(List.of(text.split("\n")));
        int begun = -1;
        for (int i = 0; i < lines.size(); i++) {
            Matcher method = METHOD.matcher(lines.get(i));
            if (method.find()) {
                begun = i;
                int parameters = method.group(2).isEmpty() ? 0 : method.group(2).split(",").length;
                checks.same("at most seven parameters of " + method.group(1), parameters <= 7, true);
            }
            if (begun >= 0 && lines.get(i).matches(" {4,8}}")) {
                checks.same("at most 60 lines from " + (begun + 1), i - begun < 60, true);
                begun = -1;
            }
        }
    }
}
