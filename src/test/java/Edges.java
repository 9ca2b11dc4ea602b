import java.lang.reflect.InvocationTargetException;
import java.lang.reflect.Method;
import java.util.Arrays;
import java.util.Comparator;

/**
 * Runs each test of a class: a static method whose name begins with the number of its promise, as
 * promise03_belowZero(Checks), and that looks at one sentence of the document alone.
 */
final class Edges {
    private Edges() { }

    static void run(Class<?> tests, int... promises) {
        Method[] methods = tests.getDeclaredMethods();
        Arrays.sort(methods, Comparator.comparing(Method::getName));
        int ran = 0;
        int failed = 0;
        for (Method method : methods) {
            if (method.getName().startsWith("promise")) {
                ran++;
                failed += holds(method) ? 0 : 1;
            }
        }
        for (int promise : promises) {
            String name = String.format("promise%02d_", promise);
            if (Arrays.stream(methods).noneMatch(method -> method.getName().startsWith(name))) {
                System.out.println("promise " + promise + " has no test");
                failed++;
            }
        }
        System.out.println(ran + " tests, " + failed + " fail");
        if (failed != 0) {
            System.exit(1);
        }
    }

    private static boolean holds(Method method) {
        Checks checks = new Checks(method.getName());
        try {
            method.invoke(null, checks);
            checks.due("asks something", checks.asked() > 0, true);
        } catch (InvocationTargetException e) {
            checks.due("threw " + e.getCause(), true, false);
        } catch (IllegalAccessException e) {
            checks.due("can't be called", true, false);
        }
        return checks.isClean();
    }
}
