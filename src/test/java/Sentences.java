import java.lang.reflect.InvocationTargetException;
import java.lang.reflect.Method;
import java.util.ArrayList;
import java.util.Comparator;
import java.util.List;

/** Runs the tests of a class that are marked with a sentence, each on its own. */
final class Sentences {

    private Sentences() { }

    static List<Method> testsOf(Class<?> tests) {
        List<Method> found = new ArrayList<>();
        for (Method method : tests.getDeclaredMethods()) {
            if (method.isAnnotationPresent(Sentence.class)) {
                found.add(method);
            }
        }
        found.sort(Comparator.comparing(Method::getName));
        return found;
    }

    /** Runs all of them, also behind one that fails, and ends with exit code 1 if one did. */
    static void run(Class<?> tests) {
        int failed = 0;
        List<Method> all = testsOf(tests);
        for (Method test : all) {
            if (!passes(test)) {
                failed++;
                System.out.println("  broken: " + test.getAnnotation(Sentence.class).says());
            }
        }
        System.out.println(tests.getSimpleName() + ": " + all.size() + " sentences tested, " + failed + " broken");
        if (failed != 0 || all.isEmpty()) {
            System.exit(1);
        }
    }

    private static boolean passes(Method test) {
        int before = Relays.checks.wrong();
        Relays.checks.rename(test.getName());
        try {
            test.invoke(null);
        } catch (InvocationTargetException e) {
            Relays.same("what the test throws", e.getCause(), "nothing");
        } catch (IllegalAccessException e) {
            Relays.same("the test can be called", e, "yes");
        }
        return Relays.checks.wrong() == before;
    }
}
