import java.lang.reflect.InvocationTargetException;
import java.lang.reflect.Method;
import java.util.ArrayList;
import java.util.Comparator;
import java.util.List;

/** Runs the tests of a class that each name a sentence of the document; what is wrong is told with that sentence. */
final class Boundaries {
    private Boundaries() {
    }

    static void run(Class<?> tests) throws IllegalAccessException {
        Document document = new Document();
        for (Method test : testsOf(tests)) {
            Says says = test.getAnnotation(Says.class);
            Check.about(says.in() + ", \"" + says.value() + "\": ");
            Check.same("the sentence stands in the document", document.says(says.in(), says.value()), true);
            int before = Check.count();
            try {
                test.invoke(null);
            } catch (InvocationTargetException e) {
                Check.same(test.getName() + " ends with " + e.getCause(), false, true);
            }
            Check.same(test.getName() + " checks something", Check.count() > before, true);
        }
        Check.end();
    }

    static List<Method> testsOf(Class<?> tests) {
        List<Method> found = new ArrayList<>();
        for (Method method : tests.getDeclaredMethods()) {
            if (method.isAnnotationPresent(Says.class)) {
                found.add(method);
            }
        }
        found.sort(Comparator.comparing(Method::getName));
        return found;
    }
}
