import java.lang.reflect.Constructor;
import java.lang.reflect.Field;
import java.lang.reflect.Method;
import java.lang.reflect.Modifier;
import java.util.ArrayList;
import java.util.Arrays;
import java.util.Collections;
import java.util.List;

/** The public face is the document's, and nothing but it. */
public final class FaceTest {
    private static final String[] CALLS = {
        "int after(int)", "int amiss()", "int block(int)", "int book(int, int)", "int clear()", "int count(int, int)",
        "int counted(int)", "int cover(int)", "int differ()", "int event(int, int)", "int exchange(int, int)",
        "int feed(int)", "int fits(int, int)", "int image()", "int item(int, int, long)", "int judge(int, int)",
        "int keep()", "int looked()", "int number(int)", "int of(int, int)", "int open(int)", "int part(int, int)",
        "int parted(int)", "int put(int, int)", "int read()", "int see(int, int)",
        "int shift(int, int, int, int, int)", "int size(int, int, int)", "int sum(int)", "int swap()",
        "int tape(int, int, int)", "int told(int)", "int turn()", "int twist(int, int)", "int undo()",
        "int written(int)", "long mean(int)", "long odds(int, int)", "long peek(int, int)"};

    public static void main(String[] args) {
        Class<?> face = TradedDesigns.class;
        Check.due("public and final", face.getModifiers(), Modifier.PUBLIC | Modifier.FINAL);
        Check.text("methods", calls(face), String.join("; ", CALLS));
        constructors(face);
        constants(face);
        names(face);
        Check.end();
    }

    private static String calls(Class<?> face) {
        List<String> calls = new ArrayList<>();
        for (Method method : face.getDeclaredMethods()) {
            if (!Modifier.isPrivate(method.getModifiers())) {
                String types = Arrays.toString(method.getParameterTypes()).replace("[", "(").replace("]", ")");
                calls.add(method.getReturnType() + " " + method.getName() + types);
                Check.due("public " + method.getName(), method.getModifiers(), Modifier.PUBLIC);
            }
        }
        Collections.sort(calls);
        return String.join("; ", calls);
    }

    private static void constructors(Class<?> face) {
        Constructor<?>[] all = face.getDeclaredConstructors();
        Check.due("constructors", all.length, 1);
        Check.due("public constructor", all[0].getModifiers(), Modifier.PUBLIC);
        Check.due("its parameters", all[0].getParameterCount(), 0);
    }

    private static void constants(Class<?> face) {
        Check.due("NONE", TradedDesigns.NONE, -1);
        Check.due("BAD", TradedDesigns.BAD, -2);
        Check.due("STATE", TradedDesigns.STATE, -3);
        Check.due("FULL", TradedDesigns.FULL, -4);
        Check.due("NO", TradedDesigns.NO, Long.MIN_VALUE);
        List<String> names = new ArrayList<>();
        for (Field field : face.getDeclaredFields()) {
            if (!Modifier.isPrivate(field.getModifiers())) {
                names.add(field.getType() + " " + field.getName());
                Check.due("constant " + field.getName(), field.getModifiers(),
                        Modifier.PUBLIC | Modifier.STATIC | Modifier.FINAL);
            }
        }
        Collections.sort(names);
        Check.text("constants", String.join(", ", names), "int BAD, int FULL, int NONE, int STATE, long NO");
    }

    private static void names(Class<?> face) {
        List<String> open = new ArrayList<>();
        for (Method method : face.getDeclaredMethods()) {
            if (!Modifier.isPrivate(method.getModifiers())) {
                open.add(method.getName());
            }
        }
        Class<?>[] inside = face.getDeclaredClasses();
        Check.due("no more than twelve classes", inside.length <= 11 ? 1 : 0, 1);
        for (Class<?> part : inside) {
            Check.due(part.getName() + " is static", part.getModifiers() & Modifier.STATIC, Modifier.STATIC);
            Check.due(part.getName() + " isn't public", part.getModifiers() & Modifier.PUBLIC, 0);
            for (Method method : part.getDeclaredMethods()) {
                boolean taken = open.contains(method.getName());
                Check.due(part.getName() + "." + method.getName() + " bears a public name", taken ? 1 : 0, 0);
            }
        }
        for (Method method : face.getDeclaredMethods()) {
            if (Modifier.isPrivate(method.getModifiers())) {
                boolean taken = open.contains(method.getName());
                Check.due("private " + method.getName() + " bears a public name", taken ? 1 : 0, 0);
            }
        }
    }
}
