import java.lang.reflect.InvocationTargetException;
import java.lang.reflect.Method;
import java.lang.reflect.Modifier;
import java.util.Arrays;
import java.util.Comparator;

/**
 * Runs the boundary cases of a test class: each static method of it that takes a Check alone is a
 * case, named after the promise (or the term) and what is at its boundary there.
 */
final class Cases {
    private Cases() {
    }

    /** Ends the test with exit code 1 if a case fails, or makes no check at all. */
    static void of(Class<?> tests) throws ReflectiveOperationException {
        Method[] methods = tests.getDeclaredMethods();
        Arrays.sort(methods, Comparator.comparing(Method::getName));
        int cases = 0;
        int failed = 0;
        for (Method method : methods) {
            if (isCase(method)) {
                cases++;
                failed += holds(tests, method) ? 0 : 1;
            }
        }
        System.out.println(tests.getName() + ": " + (cases - failed) + " cases passed, " + failed + " failed");
        if (failed > 0 || cases == 0) {
            System.exit(1);
        }
    }

    private static boolean isCase(Method method) {
        return Modifier.isStatic(method.getModifiers())
                && Arrays.equals(method.getParameterTypes(), new Class<?>[] {Check.class});
    }

    private static boolean holds(Class<?> tests, Method method) throws ReflectiveOperationException {
        Check check = new Check(tests.getName() + "." + method.getName());
        try {
            method.invoke(null, check);
        } catch (InvocationTargetException e) {
            check.due("the case", e.getCause(), "its end");
        }
        if (!check.holds()) {
            System.out.println(tests.getName() + "." + method.getName() + " failed");
        }
        return check.holds();
    }
}
