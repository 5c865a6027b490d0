import java.lang.reflect.InvocationTargetException;
import java.lang.reflect.Method;
import java.util.ArrayList;
import java.util.Comparator;
import java.util.List;

/**
 * Runs the tests of a class: its methods whose names begin with "promise". Such a name tells the
 * promise, its method, and the case, as in promise02_addPoint_argument_xTooSmall. The third part
 * is the exception that is due, or "first" (several conditions apply, one exception is thrown
 * first), "kept" (a refused call changes nothing), "edge", "empty", "full" or "late" (after the
 * planning phase).
 */
final class Promises {
    private Promises() {
    }

    static List<Method> testsOf(Class<?> suite) {
        List<Method> tests = new ArrayList<>();
        for (Method method : suite.getDeclaredMethods()) {
            if (method.getName().startsWith("promise")) {
                tests.add(method);
            }
        }
        tests.sort(Comparator.comparing(Method::getName));
        return tests;
    }

    static void check(Class<?> suite) {
        int failed = 0;
        List<Method> tests = testsOf(suite);
        for (Method test : tests) {
            if (!holds(test)) {
                failed++;
                System.out.println("FAILED: " + test.getName());
            }
        }
        System.out.println(suite.getSimpleName() + ": " + (tests.size() - failed) + " passed, "
                + failed + " failed");
        if (failed > 0 || tests.isEmpty()) {
            System.exit(1);
        }
    }

    private static boolean holds(Method test) {
        Due due = new Due(test.getName());
        try {
            test.invoke(null, due);
        } catch (InvocationTargetException e) {
            System.out.println(test.getName() + " ended with " + e.getCause());
            return false;
        } catch (IllegalAccessException e) {
            return false;
        }
        return due.holds();
    }
}
