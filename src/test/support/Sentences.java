import java.lang.reflect.InvocationTargetException;
import java.lang.reflect.Method;
import java.util.Arrays;
import java.util.Comparator;
import java.util.HashMap;
import java.util.List;
import java.util.Map;

/** Runs the tests of a class, one for each sentence, and tells what is not as due. */
final class Sentences {
    /** Enough to see what is broken; a broken sentence may otherwise be told thousands of times. */
    private static final int MOST_TOLD = 5;

    private static String current = "";
    private static int asked = 0;
    private static final Map<String, Integer> WRONG = new HashMap<>();

    private Sentences() {
    }

    /** Whether an answer is the one that is due. */
    static boolean holds(String call, long got, long want) {
        asked++;
        if (got != want) {
            tell(call + " answered " + got + ", due is " + want);
        }
        return got == want;
    }

    static void tell(String fault) {
        if (WRONG.merge(current, 1, Integer::sum) <= MOST_TOLD) {
            System.out.println(current + ": " + fault);
        }
    }

    static void runAll(Class<?> of) throws IllegalAccessException {
        List<Method> tests = Arrays.stream(of.getDeclaredMethods())
            .filter(m -> m.isAnnotationPresent(Says.class))
            .sorted(Comparator.comparing((Method m) -> m.getAnnotation(Says.class).value()))
            .toList();
        for (Method test : tests) {
            current = test.getAnnotation(Says.class).value() + " (" + test.getName() + ")";
            try {
                test.invoke(null);
            } catch (InvocationTargetException e) {
                tell("ended by " + e.getCause());
            }
        }
        System.out.println(tests.size() + " sentences, " + asked + " answers asked for, "
            + WRONG.size() + " sentences are broken");
        if (!WRONG.isEmpty() || tests.isEmpty()) {
            System.exit(1);
        }
    }
}
