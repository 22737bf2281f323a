import java.lang.reflect.Method;
import java.util.ArrayList;
import java.util.List;

/** Long runs of calls, each answered alike by the class and by the model. The same runs each time. */
public final class ModelTest {
    private static final int RUNS = 1000;
    // The last step of a run may ask some 160 times more: 512 calls are promised.
    private static final int CALLS = 340;
    private static final String[] DIRECT = {"size", "count", "twist", "turn", "clear", "put", "swap", "keep", "differ",
        "exchange", "told", "block", "number", "of", "sum", "amiss", "cover", "written", "open", "parted", "part", "see",
        "fits", "odds", "mean", "event", "after", "book", "looked", "judge", "image", "undo", "counted", "tape", "item",
        "peek", "shift", "count", "count", "put", "put", "put", "twist", "see", "fits", "event", "after", "item", "judge"};

    private static final Method[] SUBJECT = TradedDesigns.class.getDeclaredMethods();
    private static final Method[] MODEL = Model.class.getDeclaredMethods();

    private long seed = 1;
    private TradedDesigns subject = new TradedDesigns();
    private Model model = new Model();
    private final List<String> log = new ArrayList<>();
    private boolean alike = true;
    private int v = 6;
    private int k = 3;
    private int t = 2;
    private int calls = 0;

    public static void main(String[] args) throws ReflectiveOperationException {
        new ModelTest().runAll();
        Check.end();
    }

    private int any(int bound) {
        seed = seed * 6364136223846793005L + 1442695040888963407L;
        return (int) ((seed >>> 33) % bound);
    }

    private int between(int least, int greatest) {
        return least + any(greatest - least + 1);
    }

    private void runAll() throws ReflectiveOperationException {
        for (int run = 0; run < RUNS && alike; run++) {
            subject = new TradedDesigns();
            model = new Model();
            log.clear();
            calls = 0;
            learnSizes();
            if (any(2) == 0) {
                call("size", between(4, 8), 2 + any(2), 1);
            }
            while (calls < CALLS && alike) {
                step();
            }
            Check.due("run " + run + " is alike", alike ? 1 : 0, 1);
        }
        if (!alike) {
            log.subList(Math.max(0, log.size() - 60), log.size()).forEach(System.out::println);
        }
    }

    private void step() throws ReflectiveOperationException {
        int sort = any(100);
        if (sort < 6) {
            readText();
        } else if (sort < 12) {
            swapByTwist();
        } else if (sort < 14) {
            tellRow();
        } else if (sort < 15) {
            lookAtAll();
        } else {
            callOf(DIRECT[any(DIRECT.length)]);
        }
        learnSizes();
    }

    private void learnSizes() {
        int sizes = model.told(9);
        v = sizes / 100;
        k = sizes / 10 % 10;
        t = sizes % 10;
    }

    private void call(String name, long... arguments) throws ReflectiveOperationException {
        calls++;
        long got = answer(subject, name, arguments);
        long want = answer(model, name, arguments);
        StringBuilder told = new StringBuilder(name);
        for (long argument : arguments) {
            told.append(' ').append(argument);
        }
        log.add(told + " -> " + got + (got == want ? "" : ", due is " + want));
        alike &= got == want;
    }

    private static long answer(Object target, String name, long[] arguments) throws ReflectiveOperationException {
        for (Method method : target instanceof Model ? MODEL : SUBJECT) {
            if (method.getName().equals(name)) {
                Object[] given = new Object[arguments.length];
                for (int i = 0; i < given.length; i++) {
                    boolean isLong = method.getParameterTypes()[i] == long.class;
                    given[i] = isLong ? (Object) arguments[i] : (Object) (int) arguments[i];
                }
                return ((Number) method.invoke(target, given)).longValue();
            }
        }
        throw new NoSuchMethodException(name);
    }

    private int someNumber(int least, int greatest) {
        int sort = any(40);
        int[] far = {Integer.MIN_VALUE, Integer.MAX_VALUE, least - 1, greatest + 1, -1, 0};
        return sort < far.length ? far[sort] : between(least, greatest);
    }

    private int someBlock() {
        return any(15) == 0 ? someNumber(0, 56) : any(model.told(0));
    }

    private int someSet(int most) {
        if (any(15) == 0) {
            return someNumber(0, 300);
        }
        int set = 0;
        for (int left = any(most + 1); left > 0; left--) {
            set |= 1 << any(v);
        }
        return set;
    }

    private int someTwist() {
        List<Integer> points = new ArrayList<>();
        for (int point = 1; point <= v; point++) {
            points.add(point);
        }
        int number = 0;
        int length = t + k + 1 + (any(30) == 0 ? between(-1, 1) : 0);
        for (int i = 0; i < length; i++) {
            int digit = points.isEmpty() ? any(10) : points.remove(any(5) == 0 ? any(points.size()) : 0);
            number = 10 * number + (any(100) == 0 ? any(10) : digit);
        }
        return number;
    }

    private int someCount() {
        int sort = any(10);
        return sort < 5 ? between(-2, 2) : sort < 9 ? between(-12, 12) : someNumber(-99, 99);
    }

    private int someSum() {
        int sum = model.sum(someSet(t));
        return any(4) == 0 || sum < 0 ? someNumber(-999, 999) : sum - 10000 + between(-3, 3);
    }

    private void callOf(String name) throws ReflectiveOperationException {
        switch (name) {
            case "size":
                if (any(5) == 0) {
                    call(name, someNumber(4, 8), someNumber(2, 3), someNumber(1, 2));
                }
                break;
            case "count":
                call(name, someBlock(), someCount());
                break;
            case "book":
                call(name, any(12) == 0 ? -1 : someBlock(), any(2) == 0 ? 0 : someCount());
                break;
            case "twist":
                call(name, someTwist(), any(3) == 0 ? someNumber(-9, 9) : between(-2, 2));
                break;
            case "put":
                call(name, someBlock(), any(9) == 0 ? someNumber(0, 1) : any(2));
                break;
            case "exchange":
                call(name, someNumber(0, v - 1), someNumber(0, v - 1));
                break;
            case "told":
            case "open":
            case "after":
            case "counted":
            case "mean":
                call(name, someNumber(0, name.equals("told") ? 9 : 3));
                break;
            case "block":
                call(name, someBlock());
                break;
            case "number":
            case "sum":
            case "cover":
                call(name, someSet(k));
                break;
            case "of":
            case "fits":
                call(name, someBlock(), someNumber(0, 2));
                break;
            case "written":
                call(name, any(4) == 0 ? someNumber(0, 400) : any(20));
                break;
            case "parted":
                call(name, someNumber(2, 6));
                break;
            case "part":
                call(name, someNumber(2, 6), someBlock());
                break;
            case "see":
                seeSome();
                break;
            case "odds":
                call(name, someSet(k), someNumber(0, 1));
                break;
            case "event":
                eventSome();
                break;
            default:
                callTapes(name);
                break;
        }
    }

    private void seeSome() throws ReflectiveOperationException {
        int set = any(9) == 0 ? -1 : someSet(t);
        int sum = model.sum(set);
        call("see", set, any(4) == 0 || sum < 0 ? someSum() : sum - 10000 + (any(3) == 0 ? between(-5, 5) : 0));
    }

    private void eventSome() throws ReflectiveOperationException {
        int what = any(14) == 0 ? -1 : someNumber(0, 4);
        int n = what == 0 ? someTwist() : what >= 3 ? someBlock() : any(9) == 0 ? someNumber(0, 1) : 0;
        call("event", what, n);
    }

    private void callTapes(String name) throws ReflectiveOperationException {
        switch (name) {
            case "judge":
                call(name, someNumber(0, 5), any(2) == 0 ? 0 : someNumber(0, 60));
                break;
            case "tape":
                call(name, someNumber(0, 5), any(2) == 0 ? 0 : someNumber(-1, 4), someNumber(0, 60));
                break;
            case "item":
                call(name, someNumber(0, 5), someNumber(0, 20), any(2) == 0 ? between(-200, 200) : seed);
                break;
            case "peek":
                call(name, someNumber(0, 5), someNumber(0, 20));
                break;
            case "shift":
                call(name, someNumber(0, 5), someNumber(0, 9), someNumber(0, 5), someNumber(0, 9), someNumber(0, 12));
                break;
            default:
                call(name);
                break;
        }
    }

    private void feedText(String text) throws ReflectiveOperationException {
        for (int i = 0; i < text.length(); i++) {
            call("feed", text.charAt(i));
        }
    }

    private void readText() throws ReflectiveOperationException {
        StringBuilder text = new StringBuilder();
        for (int clauses = any(25) == 0 ? between(11, 13) : between(1, 4); clauses > 0; clauses--) {
            text.append(text.length() == 0 ? "" : ";").append(someClause(clauses > 5));
        }
        if (any(3) == 0) {
            spoil(text);
        }
        feedText(text.toString());
        if (any(30) == 0) {
            call("feed", someNumber(0, 127));
        }
        call("read");
    }

    private void spoil(StringBuilder text) {
        int place = any(text.length());
        String signs = " ;-0123456789abdefiknoprstuwz";
        char sign = signs.charAt(any(signs.length()));
        switch (any(4)) {
            case 0:
                text.setLength(place);
                break;
            case 1:
                text.insert(place, sign);
                break;
            case 2:
                text.deleteCharAt(place);
                break;
            default:
                text.setCharAt(place, sign);
                break;
        }
    }

    private String someClause(boolean isShort) {
        switch (isShort ? 3 + any(5) : any(8)) {
            case 0:
                return any(3) == 0 ? "size " + between(3, 9) + " " + between(2, 4) + " " + between(0, 2) : "turn";
            case 1:
                return "count " + any(model.told(0) + 1) + " " + between(-105, 105);
            case 2:
                return "twist " + someTwist() + " " + between(-3, 3);
            case 3:
                return "put " + any(model.told(0) + 1);
            case 4:
                return "turn";
            case 5:
                return "swap";
            case 6:
                return "keep";
            default:
                return "differ";
        }
    }

    private void swapByTwist() throws ReflectiveOperationException {
        call("clear");
        call("twist", someTwist(), any(2) == 0 ? 1 : -1);
        if (any(3) == 0) {
            call("twist", someTwist(), any(2) == 0 ? 1 : -1);
        }
        for (int block = 0; block < model.told(0); block++) {
            int count = model.of(block, 0) - 100;
            if (count != 0 && any(60) != 0) {
                call("put", block, count < 0 ? 1 : 0);
            }
        }
        for (int what = 0; what < 3; what++) {
            call("open", what);
        }
        call("after", any(3));
        call("swap");
        call("amiss");
    }

    private void tellRow() throws ReflectiveOperationException {
        int tape = any(6);
        int from = any(4);
        call("tape", tape, 0, Math.min(60, Math.max(0, model.told(0) + from - any(3) + any(3))));
        for (int block = 0; block < model.told(0); block++) {
            call("item", tape, from + block, model.of(block, 0) - 100);
        }
        call("judge", tape, from);
        call("item", tape, from + any(model.told(0)), someCount());
        call("judge", tape, from);
    }

    private void lookAtAll() throws ReflectiveOperationException {
        for (int what = 0; what < 10; what++) {
            call("told", what);
        }
        for (int i = 0; i < 40; i++) {
            call("written", i);
        }
        for (int block = 0; block < model.told(0); block++) {
            call("of", block, any(3));
            call("fits", block, any(2));
        }
    }
}
