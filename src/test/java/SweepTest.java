import java.lang.reflect.InvocationTargetException;
import java.lang.reflect.Method;
import java.lang.reflect.Modifier;
import java.util.ArrayList;
import java.util.Arrays;
import java.util.Comparator;
import java.util.List;

/** Every call with numbers at, beside and far beyond each edge, at all sizes, beside the model: none throws, all are alike. */
public final class SweepTest {
    private static final int CALLS_OF_ONE_OBJECT = 400;
    private static final int[] FIRST = {Integer.MIN_VALUE, Integer.MIN_VALUE + 7, -1000, -256, -129, -100, -3, -2, -1, 0, 1, 2, 3,
        4, 5, 6, 7, 8, 9, 10, 11, 15, 16, 19, 20, 27, 28, 31, 32, 34, 35, 55, 56, 57, 63, 64, 127, 128, 129, 255, 256, 1234, 4321,
        12345, 123456, Integer.MAX_VALUE - 1, Integer.MAX_VALUE};
    private static final int[] SECOND = {Integer.MIN_VALUE, -1000, -999, -100, -99, -10, -9, -1, 0, 1, 2, 3, 5, 6, 7, 9, 10, 60, 99,
        100, 999, 1000, 1234, 12345, 123456, 654321, Integer.MAX_VALUE};
    private static final int[] FEW = {Integer.MIN_VALUE, -1, 0, 1, 2, 3, 5, 6, 59, 60, 61, Integer.MAX_VALUE};

    private TradedDesigns subject = new TradedDesigns();
    private Model model = new Model();
    private int made = CALLS_OF_ONE_OBJECT;

    public static void main(String[] args) throws ReflectiveOperationException {
        for (int[] sizes : Run.sizes()) {
            new SweepTest().sweep(sizes);
        }
        Check.end();
    }

    private static List<Method> faces() {
        List<Method> faces = new ArrayList<>();
        for (Method method : TradedDesigns.class.getDeclaredMethods()) {
            if (Modifier.isPublic(method.getModifiers())) {
                faces.add(method);
            }
        }
        faces.sort(Comparator.comparing(Method::getName));
        return faces;
    }

    private void sweep(int[] sizes) throws ReflectiveOperationException {
        for (Method face : faces()) {
            Method due = Model.class.getDeclaredMethod(face.getName(), face.getParameterTypes());
            int many = face.getParameterCount();
            int[] chosen = new int[many];
            made = CALLS_OF_ONE_OBJECT;
            choose(sizes, face, due, chosen, 0);
        }
    }

    private static int[] numbers(int many, int place) {
        if (many > 2) {
            return FEW;
        }
        return place == 0 ? FIRST : SECOND;
    }

    private void choose(int[] sizes, Method face, Method due, int[] chosen, int place) throws ReflectiveOperationException {
        if (place == chosen.length) {
            ask(sizes, face, due, chosen);
            return;
        }
        // Five numbers in all ways would be too many: every other one has a few alone.
        int[] numbers = chosen.length == 5 && place % 2 == 1 ? new int[] {0, 5, Integer.MAX_VALUE} : numbers(chosen.length, place);
        for (int number : numbers) {
            chosen[place] = number;
            choose(sizes, face, due, chosen, place + 1);
        }
    }

    private void ask(int[] sizes, Method face, Method due, int[] chosen) throws ReflectiveOperationException {
        if (made >= CALLS_OF_ONE_OBJECT) {
            startAnew(sizes);
        }
        made++;
        Object[] given = new Object[chosen.length];
        for (int i = 0; i < given.length; i++) {
            given[i] = face.getParameterTypes()[i] == long.class ? (Object) (long) chosen[i] : (Object) chosen[i];
        }
        String call = face.getName() + Arrays.toString(chosen) + " at " + Arrays.toString(sizes);
        try {
            Check.due(call, ((Number) face.invoke(subject, given)).longValue(), ((Number) due.invoke(model, given)).longValue());
        } catch (InvocationTargetException thrown) {
            Check.text(call, String.valueOf(thrown.getCause()), "a number");
        }
    }

    private void startAnew(int[] sizes) {
        subject = new TradedDesigns();
        model = new Model();
        made = 0;
        both("size", sizes[0], sizes[1], sizes[2]);
        both("count", 0, 5);
        both("count", 3, -9);
        both("put", 1, 1);
        both("keep");
        both("put", 2, 1);
        both("see", 1, 3);
        both("event", 4, 2);
        both("book", 3, -9);
        both("tape", 0, 0, 60);
        both("tape", 1, 0, 5);
        both("tape", 2, 3, 60);
        both("tape", 3, 4, 0);
        both("image");
        both("count", 1, 7);
    }

    private void both(String name, int... numbers) {
        Class<?>[] types = new Class<?>[numbers.length];
        Arrays.fill(types, int.class);
        Object[] given = Arrays.stream(numbers).boxed().toArray();
        try {
            Object got = TradedDesigns.class.getMethod(name, types).invoke(subject, given);
            Object want = Model.class.getMethod(name, types).invoke(model, given);
            Check.text(name, String.valueOf(got), String.valueOf(want));
        } catch (ReflectiveOperationException thrown) {
            Check.text(name, String.valueOf(thrown.getCause()), "a number");
        }
    }
}
