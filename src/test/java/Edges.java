import java.lang.reflect.InvocationTargetException;
import java.lang.reflect.Method;
import java.lang.reflect.Modifier;
import java.util.ArrayList;
import java.util.Comparator;
import java.util.List;

/** Runs the tests of a class of edges: each of its methods that says which sentence it holds. */
final class Edges {
    private Edges() {
    }

    static List<Method> tests(Class<?> edges) {
        List<Method> tests = new ArrayList<>();
        for (Method method : edges.getDeclaredMethods()) {
            if (method.isAnnotationPresent(Holds.class)) {
                tests.add(method);
            }
        }
        tests.sort(Comparator.comparing((Method test) -> test.getAnnotation(Holds.class).promise())
                .thenComparing(Method::getName));
        return tests;
    }

    static void run(Class<?> edges) {
        for (Method method : edges.getDeclaredMethods()) {
            boolean looksLikeTest = method.getParameterCount() == 0 && method.getReturnType() == void.class
                    && Modifier.isStatic(method.getModifiers()) && !method.isSynthetic();
            boolean holds = method.isAnnotationPresent(Holds.class);
            Check.due(method.getName() + " says which sentence it holds", looksLikeTest == holds ? 1 : 0, 1);
        }
        for (Method test : tests(edges)) {
            Holds holds = test.getAnnotation(Holds.class);
            String where = holds.promise() == 0 ? "Terms" : "Promise " + holds.promise();
            Check.about(where + ", '" + holds.says() + "': ");
            perform(test);
        }
        Check.about("");
        Check.end();
    }

    private static void perform(Method test) {
        try {
            test.setAccessible(true);
            test.invoke(null);
        } catch (InvocationTargetException thrown) {
            Check.text(test.getName() + " threw", String.valueOf(thrown.getCause()), "");
        } catch (IllegalAccessException closed) {
            throw new IllegalStateException(closed);
        }
    }
}
