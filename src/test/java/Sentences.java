import java.lang.reflect.InvocationTargetException;
import java.lang.reflect.Method;
import java.util.ArrayList;
import java.util.Comparator;
import java.util.List;

/** Runs the tests of a class that are each of one sentence of the document. */
final class Sentences {
    private Sentences() {
    }

    static List<Method> testsOf(Class<?> tests) {
        List<Method> found = new ArrayList<>();
        for (Method test : tests.getDeclaredMethods()) {
            if (test.isAnnotationPresent(Sentence.class)) {
                found.add(test);
            }
        }
        found.sort(Comparator.comparingInt((Method test) -> test.getAnnotation(Sentence.class).promise())
            .thenComparing(Method::getName));
        return found;
    }

    static void run(Class<?> tests) throws IllegalAccessException {
        List<Method> all = testsOf(tests);
        for (Method test : all) {
            Sentence of = test.getAnnotation(Sentence.class);
            Due.begin((of.promise() == 0 ? "terms" : "promise " + of.promise()) + ", '" + of.says() + "', " + test.getName());
            int before = Due.looked();
            try {
                test.invoke(null);
            } catch (InvocationTargetException e) {
                Due.is("threw " + e.getCause(), 1, 0);
            }
            Due.is("it looks at something", Due.looked() > before ? 1 : 0, 1);
        }
        Due.begin("");
        Due.is("there are tests in " + tests.getName(), all.isEmpty() ? 0 : 1, 1);
        System.out.println(all.size() + " sentences");
        Due.end();
    }
}
