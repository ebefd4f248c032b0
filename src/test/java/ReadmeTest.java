import java.io.IOException;
import java.nio.file.DirectoryStream;
import java.nio.file.Files;
import java.nio.file.Path;
import java.util.ArrayList;
import java.util.List;
import java.util.regex.Matcher;
import java.util.regex.Pattern;

/**
 * That the examples of README.md compile and answer as they say, and that it
 * names all tests, and no file that is not there. Started in the project's
 * folder.
 */
public final class ReadmeTest {

    private static final Path README = Path.of("README.md");
    private static final Path TESTS = Path.of("src", "test", "java");
    private static final Pattern ANSWER = Pattern.compile("(?:int (\\w+) = )?(.*);\\s*// (-?[0-9.f]+)(:.*)?");
    private static final Pattern REFUSAL = Pattern.compile("(.*);\\s*// throws (\\w+)(:.*)?");
    private static final Pattern TEST = Pattern.compile("`(\\w+Test)`");
    private static final Pattern FILE = Pattern.compile("[\\w./]+/[\\w.]+");

    /** What the program of the examples holds besides them. */
    private static final String FRAME = """
        public final class Examples {
            private static int wrong = 0;
            private interface Call { void run(); }
            private static void same(String line, Object got, Object due) {
                if (!due.equals(got)) {
                    wrong++;
                    System.out.println("ReadmeTest: " + line + " is " + got);
                }
            }
            private static void thrown(String line, Class<?> due, Call call) {
                Object got = "nothing";
                try {
                    call.run();
                } catch (RuntimeException e) {
                    got = e.getClass();
                }
                same(line, got, due);
            }
            public static void main(String[] args) {
        @
                System.exit(wrong == 0 ? 0 : 1);
            }
        }
        """;

    private static final Checks checks = new Checks("ReadmeTest");

    /** The examples as blocks, each of whose answers is compared with the one behind it. */
    private static String examplesOf(List<String> readme) {
        StringBuilder examples = new StringBuilder();
        boolean inside = false;
        for (String line : readme) {
            if (line.startsWith("```")) {
                inside = line.equals("```java");
                examples.append(inside ? "{\n" : "}\n");
            } else if (inside) {
                examples.append(compared(line)).append('\n');
            }
        }
        return examples.toString();
    }

    private static String compared(String line) {
        String where = "\"" + line.strip().replace("\"", "\\\"") + "\"";
        Matcher refusal = REFUSAL.matcher(line);
        if (refusal.matches()) {
            return "thrown(" + where + ", " + refusal.group(2) + ".class, () -> " + refusal.group(1) + ");";
        }
        Matcher answer = ANSWER.matcher(line);
        if (!answer.matches()) {
            checks.same("what is said of an answer in " + line, line.contains("//"), false);
            return line;
        }
        String name = answer.group(1);
        String before = name == null ? "" : line + "\n";
        return before + "same(" + where + ", " + (name == null ? answer.group(2) : name) + ", " + answer.group(3) + ");";
    }

    private static int exitCodeOf(String program) throws IOException, InterruptedException {
        Path folder = Files.createTempDirectory("examples");
        Path file = folder.resolve("Examples.java");
        try {
            Files.writeString(file, program);
            String java = Path.of(System.getProperty("java.home"), "bin", "java").toString();
            String classes = System.getProperty("java.class.path");
            return new ProcessBuilder(java, "-cp", classes, file.toString()).inheritIO().start().waitFor();
        } finally {
            Files.deleteIfExists(file);
            Files.delete(folder);
        }
    }

    private static void checkTests(String readme) throws IOException {
        List<String> named = new ArrayList<>();
        Matcher test = TEST.matcher(readme);
        while (test.find()) {
            named.add(test.group(1));
        }
        List<String> there = new ArrayList<>();
        try (DirectoryStream<Path> files = Files.newDirectoryStream(TESTS, "*Test.java")) {
            for (Path file : files) {
                there.add(file.getFileName().toString().replace(".java", ""));
            }
        }
        named.sort(null);
        there.sort(null);
        checks.same("tests named", named, there);
    }

    private static void checkFiles(String readme) {
        Matcher file = FILE.matcher(readme.replace("src/test/java/*.java", "src/test/java"));
        while (file.find()) {
            checks.same("there is " + file.group(), Files.exists(Path.of(file.group())), true);
        }
    }

    public static void main(String[] args) throws IOException, InterruptedException {
        String readme = Files.readString(README);
        String examples = examplesOf(List.of(readme.split("\n")));
        checks.same("answers told", examples.contains("same("), true);
        checks.same("exit code of the examples", exitCodeOf(FRAME.replace("@", examples)), 0);
        checkTests(readme);
        checkFiles(readme);
        checks.close();
    }
}
