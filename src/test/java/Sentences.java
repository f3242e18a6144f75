import java.lang.reflect.InvocationTargetException;
import java.lang.reflect.Method;
import java.util.Arrays;
import java.util.Comparator;
import java.util.List;
import java.util.stream.Collectors;

/** Runs the tests that name their sentence of the document, and tells of each whether its sentence holds. */
final class Sentences {
    private Sentences() {
    }

    static void run(Class<?> tests) {
        for (Method test : of(tests)) {
            System.out.println((holds(test) ? "holds:  " : "BROKEN: ") + told(test));
        }
        Check.end();
    }

    static List<Method> of(Class<?> tests) {
        return Arrays.stream(tests.getDeclaredMethods())
            .filter(test -> test.isAnnotationPresent(Sentence.class))
            .sorted(Comparator.comparing(Method::getName))
            .collect(Collectors.toList());
    }

    static String told(Method test) {
        Sentence sentence = test.getAnnotation(Sentence.class);
        return test.getName() + ": " + sentence.of() + ", \"" + String.join("\" .. \"", sentence.says()) + "\"";
    }

    static boolean holds(Method test) {
        int before = Check.wrong();
        try {
            test.setAccessible(true);
            test.invoke(null);
        } catch (InvocationTargetException e) {
            Check.fails(test.getName() + " ended by " + e.getCause());
        } catch (IllegalAccessException e) {
            Check.fails(test.getName() + " can't be called");
        }
        return Check.wrong() == before;
    }
}
