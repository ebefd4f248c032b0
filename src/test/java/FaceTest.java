import java.io.IOException;
import java.lang.reflect.Constructor;
import java.lang.reflect.Field;
import java.lang.reflect.Method;
import java.lang.reflect.Modifier;
import java.nio.file.Files;
import java.nio.file.Path;
import java.util.ArrayList;
import java.util.Arrays;
import java.util.HashSet;
import java.util.List;
import java.util.Set;
import java.util.TreeSet;

/** The public face: what the document lists, and no other visible member. */
public final class FaceTest {

    private static final Path DOCUMENT = Path.of("..", "shared", "DOC.md");
    private static final String[] FACE = {
        "int begin() IllegalStateException",
        "int write(int,int,int) IndexOutOfBoundsException IllegalArgumentException IllegalStateException",
        "int commit(int) IndexOutOfBoundsException IllegalStateException",
        "int drop(int) IndexOutOfBoundsException",
        "int want(int,int) IndexOutOfBoundsException IllegalArgumentException",
        "int pass(int) IllegalArgumentException",
        "int lose() IllegalStateException",
        "int sweep()",
        "int set(int,int) IndexOutOfBoundsException IllegalArgumentException IllegalStateException",
        "int append(int) IllegalArgumentException IllegalStateException",
        "int clearBuffer()",
        "int firstError()",
        "int obey() IllegalArgumentException",
        "int keep()",
        "int goBack() IllegalStateException",
        "int undo() IllegalStateException",
        "int row(int,int) IndexOutOfBoundsException IllegalArgumentException",
        "int transaction(int,int) IndexOutOfBoundsException IllegalArgumentException",
        "int receiver(int,int) IndexOutOfBoundsException IllegalArgumentException",
        "int message(int,int) IndexOutOfBoundsException IllegalArgumentException",
        "int count(int) IllegalArgumentException",
        "int setting(int) IndexOutOfBoundsException",
        "int drainIn()",
        "int ifPassed(int,int,int) IndexOutOfBoundsException IllegalArgumentException",
        "int skips(int,int) IndexOutOfBoundsException",
        "int slowest()",
        "double goodShare()",
        "float meanBatch()",
        "long digest()",
    };

    public static void main(String[] args) throws IOException {
        Checks checks = new Checks("FaceTest");
        if (Files.exists(DOCUMENT)) {
            checkDocument(checks);
        }
        Set<String> visible = new TreeSet<>();
        Set<String> publicNames = new HashSet<>();
        Set<String> privateNames = new HashSet<>();
        for (Method method : OutboxRelay.class.getDeclaredMethods()) {
            if (Modifier.isPrivate(method.getModifiers())) {
                privateNames.add(method.getName());
            } else {
                checks.same(method + " is public and not static", method.getModifiers(), Modifier.PUBLIC);
                publicNames.add(method.getName());
                visible.add(signatureOf(method));
            }
        }
        checks.same("methods of the face", visible, new TreeSet<>(Arrays.asList(FACE)));
        for (Class<?> inside : OutboxRelay.class.getDeclaredClasses()) {
            checks.same(inside + " is static", Modifier.isStatic(inside.getModifiers()), true);
            checks.same(inside + " is not public", Modifier.isPublic(inside.getModifiers()), false);
            for (Method method : inside.getDeclaredMethods()) {
                if (Modifier.isPrivate(method.getModifiers())) {
                    privateNames.add(method.getName());
                }
            }
        }
        privateNames.retainAll(publicNames);
        checks.same("names that are public and private", privateNames, new HashSet<String>());
        checkFields(checks);
        Constructor<?>[] constructors = OutboxRelay.class.getDeclaredConstructors();
        checks.same("constructors", constructors.length, 1);
        checks.same("constructor", constructors[0].toString(), "public OutboxRelay()");
        checks.same("class", OutboxRelay.class.getModifiers(), Modifier.PUBLIC | Modifier.FINAL);
        checks.close();
    }

    private static void checkFields(Checks checks) {
        List<String> visible = new ArrayList<>();
        for (Field field : OutboxRelay.class.getDeclaredFields()) {
            if (!Modifier.isPrivate(field.getModifiers())) {
                visible.add(field.toString());
            }
        }
        checks.same("visible fields", visible, List.of("public static final int OutboxRelay.NONE"));
        checks.same("NONE", OutboxRelay.NONE, -1);
    }

    /** That the document lists this face, and has a promise for each of its methods. */
    private static void checkDocument(Checks checks) throws IOException {
        Set<String> listed = new TreeSet<>();
        Set<String> promised = new TreeSet<>();
        for (String line : Files.readAllLines(DOCUMENT)) {
            if (line.matches("    public .*\\(.*;")) {
                listed.add(bare(line.replace("public ", "").replace(";", "")));
            } else if (line.matches("`[^`]*\\)[^`]*`: .*")) {
                promised.add(bare(line.substring(1, line.indexOf('`', 1))));
            }
        }
        Set<String> due = new TreeSet<>(Arrays.asList(FACE));
        due.add("OutboxRelay()");
        checks.same("methods that the document lists", listed, due);
        checks.same("methods with a promise", promised, due);
    }

    /** A signature of the document without the names of the arguments, written as signatureOf() writes it. */
    private static String bare(String signature) {
        String types = signature.strip().replaceAll("int \\w+(?=[,)])", "int");
        return types.replace(", int", ",int").replace(" throws ", " ").replace(", ", " ");
    }

    private static String signatureOf(Method method) {
        StringBuilder text = new StringBuilder();
        text.append(method.getReturnType().getName()).append(' ').append(method.getName()).append('(');
        for (int i = 0; i < method.getParameterCount(); i++) {
            text.append(i == 0 ? "" : ",").append(method.getParameterTypes()[i].getName());
        }
        text.append(')');
        for (Class<?> exception : method.getExceptionTypes()) {
            text.append(' ').append(exception.getSimpleName());
        }
        return text.toString();
    }
}
