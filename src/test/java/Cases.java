import java.lang.reflect.InvocationTargetException;
import java.lang.reflect.Method;
import java.lang.reflect.Modifier;
import java.util.TreeMap;

/** Runs each test of a class, a method that is named after a promise or a part, so that none is forgotten. */
final class Cases {
    private Cases() {
    }

    private static TreeMap<String, Method> of(Class<?> tests) {
        TreeMap<String, Method> found = new TreeMap<>();
        for (Method m : tests.getDeclaredMethods()) {
            boolean isNamed = m.getName().matches("(promise\\d\\d|terms|part\\d)_\\w+");
            if (isNamed && Modifier.isStatic(m.getModifiers()) && m.getParameterCount() == 0) {
                found.put(m.getName(), m);
            }
        }
        return found;
    }

    static void run(Class<?> tests, Due due) {
        for (Method m : of(tests).values()) {
            due.at(m.getName());
            try {
                m.setAccessible(true);
                m.invoke(null);
            } catch (InvocationTargetException e) {
                due.is("ended by " + e.getCause(), false, true);
            } catch (IllegalAccessException e) {
                due.is("could not be run: " + e, false, true);
            }
        }
        due.at("");
    }

    /** Each promise has a test that bears its number. */
    static void hasAllPromises(Class<?> tests, Due due, int promises) {
        for (int n = 1; n <= promises; n++) {
            String begin = String.format("promise%02d_", n);
            String next = of(tests).ceilingKey(begin);
            due.is(begin + " has a test", next != null && next.startsWith(begin), true);
        }
    }
}
