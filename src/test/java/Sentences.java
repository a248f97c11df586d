import java.lang.reflect.InvocationTargetException;
import java.lang.reflect.Method;
import java.util.ArrayList;
import java.util.Comparator;
import java.util.List;

/** Runs the tests that say which words of the document they are about. */
final class Sentences {
    private Sentences() {
    }

    /** In the order of their names, since Java tells methods in no order of its own. */
    static List<Method> testsOf(Class<?> tests) {
        List<Method> found = new ArrayList<>();
        for (Method m : tests.getDeclaredMethods()) {
            if (m.isAnnotationPresent(Says.class)) {
                found.add(m);
            }
        }
        found.sort(Comparator.comparing(Method::getName));
        return found;
    }

    static void run(Class<?> tests) {
        for (Method test : testsOf(tests)) {
            Says says = test.getAnnotation(Says.class);
            String place = says.promise() == 0 ? "Terms" : "Promise " + says.promise();
            Due.begin(test.getName() + " [" + place + ": " + String.join(" .. ", says.value()) + "]");
            run(test);
            Due.finish();
        }
        Due.end();
    }

    private static void run(Method test) {
        try {
            test.invoke(null);
        } catch (InvocationTargetException e) {
            Due.isTrue("it threw " + e.getCause(), false);
        } catch (IllegalAccessException e) {
            Due.isTrue("it can't be called: " + e, false);
        }
    }
}
