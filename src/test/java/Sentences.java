import java.lang.reflect.InvocationTargetException;
import java.lang.reflect.Method;
import java.util.ArrayList;
import java.util.Comparator;
import java.util.List;

/** Runs the tests of a class that name a promise, each under the sentence that it holds to. */
final class Sentences {
    private Sentences() {
    }

    static List<Method> of(Class<?> tests) {
        List<Method> found = new ArrayList<>();
        for (Method m : tests.getDeclaredMethods()) {
            if (m.isAnnotationPresent(Promise.class)) {
                found.add(m);
            }
        }
        // The machine hands out methods in any order; sorted, a failing run reads the same each time.
        found.sort(Comparator.comparing((Method m) -> m.getAnnotation(Promise.class).number()).thenComparing(Method::getName));
        return found;
    }

    static void run(Class<?> tests) throws IllegalAccessException {
        for (Method m : of(tests)) {
            Promise promise = m.getAnnotation(Promise.class);
            String told = "promise " + promise.number() + " (" + promise.says() + ") " + m.getName() + ": ";
            Check.under(told);
            m.setAccessible(true);
            try {
                m.invoke(null);
            } catch (InvocationTargetException e) {
                Check.same("a call", "threw " + e.getCause(), "an answer");
            }
        }
        Check.under("");
        Check.finish();
    }
}
