import java.lang.reflect.InvocationTargetException;
import java.lang.reflect.Method;
import java.lang.reflect.Modifier;
import java.util.Arrays;
import java.util.Comparator;
import java.util.TreeSet;

/**
 * Runs the tests of a class that are named by their promise ("promise07_theEleventhIsRefused"), so that a wrong answer
 * leads to the promise, and none is left out by not being called.
 */
final class Edges {
    private static final String TOLD = "promise";

    private Edges() {
    }

    static void run(Class<?> tests, int firstPromise, int lastPromise) throws IllegalAccessException {
        Method[] methods = tests.getDeclaredMethods();
        Arrays.sort(methods, Comparator.comparing(Method::getName));
        TreeSet<Integer> met = new TreeSet<>();
        for (Method method : methods) {
            if (method.getName().startsWith(TOLD) && Modifier.isStatic(method.getModifiers())) {
                met.add(promiseOf(method.getName()));
                Due.under(method.getName());
                runOne(method);
            }
        }
        Due.under(tests.getSimpleName());
        for (int promise = firstPromise; promise <= lastPromise; promise++) {
            Due.that("promise " + promise + " has a test", met.contains(promise));
        }
        Due.end();
    }

    private static int promiseOf(String name) {
        return Integer.parseInt(name.substring(TOLD.length(), TOLD.length() + 2));
    }

    // No call of the face throws: what is thrown is a wrong answer, and the other tests go on.
    private static void runOne(Method method) throws IllegalAccessException {
        try {
            method.invoke(null);
        } catch (InvocationTargetException thrown) {
            thrown.getCause().printStackTrace(System.out);
            Due.that("nothing is thrown", false);
        }
    }
}
