import java.lang.reflect.InvocationTargetException;
import java.lang.reflect.Method;
import java.util.ArrayList;
import java.util.Arrays;
import java.util.Comparator;
import java.util.List;

/**
 * Runs tests that are named by their promise: every static method of a class whose name begins with
 * "promise" and the promise's number in two digits, so that none is forgotten.
 */
final class Named {
    private Named() {
    }

    /** Runs the tests of a class and ends; each of the promises first to last must have one at least. */
    static void run(Class<?> tests, int first, int last) {
        int answers = 0;
        int failed = 0;
        List<Method> all = testsOf(tests);
        for (Method test : all) {
            Check check = new Check(test.getName());
            runOne(test, check);
            answers += check.answers();
            if (check.wrongOnes() != 0) {
                failed++;
            }
        }
        for (int promise = first; promise <= last; promise++) {
            String beginning = String.format("promise%02d", promise);
            if (all.stream().noneMatch(test -> test.getName().startsWith(beginning))) {
                System.out.println(beginning + " has no test");
                failed++;
            }
        }
        System.out.println(all.size() + " tests, " + answers + " answers looked at, " + failed + " tests failed");
        if (failed != 0) {
            System.exit(1);
        }
    }

    static List<Method> testsOf(Class<?> tests) {
        List<Method> all = new ArrayList<>();
        for (Method m : tests.getDeclaredMethods()) {
            if (m.getName().matches("promise\\d\\d.*")) {
                all.add(m);
            }
        }
        all.sort(Comparator.comparing(Method::getName));
        return all;
    }

    /** What a test throws counts as wrong, too. */
    static void runOne(Method test, Check check) {
        try {
            test.setAccessible(true);
            test.invoke(null, check);
            check.isTrue("looks at an answer", check.answers() > 0);
        } catch (InvocationTargetException e) {
            check.due("threw " + e.getCause() + " at " + Arrays.toString(e.getCause().getStackTrace()), 1, 0);
        } catch (IllegalAccessException e) {
            check.due("can not be run: " + e, 1, 0);
        }
    }
}
