import java.lang.reflect.InvocationTargetException;
import java.lang.reflect.Method;
import java.util.ArrayList;
import java.util.Comparator;
import java.util.List;

/** Runs the tests of a class: those of its methods that hold a sentence of the document. */
final class Sentences {
    private Sentences() {
    }

    static List<Method> testsOf(Class<?> tests) {
        List<Method> found = new ArrayList<>();
        for (Method m : tests.getDeclaredMethods()) {
            if (m.isAnnotationPresent(Holds.class)) {
                found.add(m);
            }
        }
        found.sort(Comparator.comparing(Method::getName));
        return found;
    }

    static void run(Class<?> tests) {
        List<Method> all = testsOf(tests);
        for (Method test : all) {
            int before = Checks.failures();
            call(test);
            if (Checks.failures() > before) {
                System.out.println("FAILED " + test.getName() + ", which holds, " + quote(test));
            }
        }
        System.out.print(all.size() + " tests; checks: ");
        Checks.end();
    }

    static String quote(Method test) {
        Holds holds = test.getAnnotation(Holds.class);
        return holds.in() + ": " + holds.sentence();
    }

    private static void call(Method test) {
        try {
            test.invoke(null);
        } catch (InvocationTargetException e) {
            Checks.due(test.getName(), "no exception", String.valueOf(e.getCause()));
        } catch (IllegalAccessException e) {
            Checks.due(test.getName(), "a test that can be called", String.valueOf(e));
        }
    }
}
