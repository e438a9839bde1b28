import java.lang.reflect.InvocationTargetException;
import java.lang.reflect.Method;
import java.lang.reflect.Modifier;
import java.util.Arrays;
import java.util.Comparator;

/**
 * Runs the tests of the edges: each method of the classes Promise01 to Promise37 that is not private is one test, of
 * one sentence of the document. A promise without a test is a fault.
 */
final class PromisesTest {
    private static final int PROMISES = 37;

    private PromisesTest() {
    }

    public static void main(String[] args) throws ReflectiveOperationException {
        int tests = 0;
        for (int number = 1; number <= PROMISES; number++) {
            tests += runPromise(String.format("Promise%02d", number));
        }
        Check.within("");
        Check.finish("PromisesTest, " + tests + " tests");
    }

    private static int runPromise(String name) throws ReflectiveOperationException {
        int tests = 0;
        Method[] methods = Class.forName(name).getDeclaredMethods();
        Arrays.sort(methods, Comparator.comparing(Method::getName));
        for (Method each : methods) {
            if (isTest(each)) {
                Check.within(name + "." + each.getName() + ": ");
                run(each);
                tests++;
            }
        }
        Check.within(name + ": ");
        Check.same("has tests", tests > 0, true);
        return tests;
    }

    private static boolean isTest(Method method) {
        return !Modifier.isPrivate(method.getModifiers()) && !method.isSynthetic() && method.getParameterCount() == 0;
    }

    private static void run(Method test) throws IllegalAccessException {
        int before = Check.checks();
        try {
            test.invoke(null);
        } catch (InvocationTargetException e) {
            Check.same("the test", e.getCause() + " at " + Arrays.toString(e.getCause().getStackTrace()), "ended");
        }
        Check.same("checks something", Check.checks() > before, true);
    }
}
