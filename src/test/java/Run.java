import java.lang.reflect.InvocationTargetException;
import java.lang.reflect.Method;
import java.util.ArrayList;
import java.util.HashMap;
import java.util.List;
import java.util.Map;

/**
 * A run of calls on a new object, each told as a text: the name and the numbers behind it. A number may be told as
 * p034 (the set of points 0, 3 and 4 as bits; p alone is the empty set), b034 (the number of that block), min and max
 * (the ints' ends), MIN and MAX (the longs').
 */
final class Run {
    private static final int MOST_CALLS = 512;
    private static final Map<String, Method> METHODS = methods();

    private final List<String> calls = new ArrayList<>();
    private final Subject main = new Subject();

    Run(String... ready) {
        does(ready);
    }

    /** An object in which nothing is empty but what is told not to be: what a call changes shows. */
    static Run full(int v, int k, int t) {
        int last = blocks(v, k) - 1;
        return new Run("size " + v + " " + k + " " + t, "count 0 5", "count " + last + " -7", "put 0 1", "keep",
                "put " + last + " 1", "see p0 5", "see p 4", "event 4 0", "event 3 " + last, "book 0 5", "tape 0 0 5",
                "item 0 0 5", "tape 1 1 3", "item 1 2 -5", "tape 2 3 60", "item 2 59 77", "tape 3 4 2", "item 3 1 1",
                "tape 4 2 4", "item 4 3 9", "image", "count 1 -3", "put 2 1", "keep", "put 0 0", "see p1 -3", "event 1 0",
                "book 1 -3", "feed 116", "feed 117", "feed 114", "feed 110");
    }

    static int blocks(int v, int k) {
        return k == 2 ? v * (v - 1) / 2 : v * (v - 1) * (v - 2) / 6;
    }

    /** All sizes that there are, each v, k, t. */
    static int[][] sizes() {
        int[][] sizes = new int[15][];
        int many = 0;
        for (int v = 4; v <= 8; v++) {
            sizes[many++] = new int[] {v, 2, 1};
            sizes[many++] = new int[] {v, 3, 1};
            sizes[many++] = new int[] {v, 3, 2};
        }
        return sizes;
    }

    /** Calls whose answers don't matter here. */
    Run does(String... more) {
        for (String call : more) {
            calls.add(call);
            main.answer(call);
        }
        return this;
    }

    Run due(String call, long want) {
        calls.add(call);
        Check.due(call, main.answer(call), want);
        return this;
    }

    /** The call answers so, and an object that is as this one is then tells nothing else than without the call. */
    Run refused(String call, long want) {
        Check.due(call, main.answer(call), want);
        for (Look look : Look.values()) {
            List<String> without = twin().lookedAt(look);
            Subject called = twin();
            called.answer(call);
            List<String> with = called.lookedAt(look);
            Check.text(call + " changed", firstUnlike(without, with), "");
        }
        return this;
    }

    /** What is asked changes nothing, as what is refused does. */
    Run asked(String call, long want) {
        return refused(call, want);
    }

    Run feeds(String text) {
        for (int i = 0; i < text.length(); i++) {
            does("feed " + (int) text.charAt(i));
        }
        return this;
    }

    Run reads(String text, long want) {
        Check.due("signs ahead of '" + text + "'", main.answer("counted 3"), 0);
        feeds(text);
        Check.due("signs of '" + text + "'", main.answer("counted 3"), text.length());
        calls.add("read");
        Check.due("read of '" + text + "'", main.answer("read"), want);
        return this;
    }

    /** The counts of blocks 0, 1, ... */
    Run counts(int... want) {
        Check.due("how many blocks", main.answer("told 0"), want.length);
        for (int block = 0; block < want.length; block++) {
            Check.due("count of block " + block, main.answer("of " + block + " 0") - 100, want[block]);
        }
        return this;
    }

    /** The blocks that are in the design (what 1) or kept (2), each told by its points: "012 345". */
    Run blocksIn(int what, String want) {
        StringBuilder found = new StringBuilder();
        for (int block = 0; block < main.answer("told 0"); block++) {
            if (main.answer("of " + block + " " + what) == 1) {
                found.append(found.length() == 0 ? "" : " ");
                int bits = (int) main.answer("block " + block);
                for (int point = 0; point < 8; point++) {
                    found.append((bits >> point & 1) != 0 ? Integer.toString(point) : "");
                }
            }
        }
        Check.text(what == 1 ? "blocks in the design" : "blocks kept", found.toString(), want);
        return this;
    }

    Run writes(String want) {
        StringBuilder found = new StringBuilder();
        for (int i = 0; i < 400 && main.answer("written " + i) != -5; i++) {
            found.append((char) main.answer("written " + i));
        }
        Check.text("what is written", found.toString(), want);
        return this;
    }

    Run row(int tape, long... want) {
        for (int i = 0; i < want.length; i++) {
            Check.due("item " + i + " of tape " + tape, main.answer("peek " + tape + " " + i), want[i]);
        }
        Check.due("no item " + want.length + " of tape " + tape, main.answer("peek " + tape + " " + want.length), Long.MIN_VALUE);
        return this;
    }

    private Subject twin() {
        Subject twin = new Subject();
        for (String call : calls) {
            twin.answer(call);
        }
        return twin;
    }

    private static String firstUnlike(List<String> one, List<String> other) {
        for (int i = 0; i < one.size() && i < other.size(); i++) {
            if (!one.get(i).equals(other.get(i))) {
                return "'" + one.get(i) + "' to '" + other.get(i) + "'";
            }
        }
        return one.size() == other.size() ? "" : "how many answers there are";
    }

    /** What can be told of an object by few enough calls, each way of looking for another object. */
    private enum Look { NOW, TOLD_BY_HAND, TEXT, IMAGE, TAPES_BELOW, TAPES_ABOVE }

    private static final class Subject {
        private final TradedDesigns x = new TradedDesigns();
        private int asked = 0;

        long answer(String call) {
            asked++;
            if (asked > MOST_CALLS) {
                throw new IllegalStateException("more calls on one object than the document promises");
            }
            String[] parts = call.split(" ");
            Method method = METHODS.get(parts[0]);
            Object[] given = new Object[method.getParameterCount()];
            for (int i = 0; i < given.length; i++) {
                long number = number(parts[i + 1]);
                given[i] = method.getParameterTypes()[i] == long.class ? (Object) number : (Object) Math.toIntExact(number);
            }
            try {
                return ((Number) method.invoke(x, given)).longValue();
            } catch (InvocationTargetException thrown) {
                throw new IllegalStateException(call + " threw " + thrown.getCause());
            } catch (IllegalAccessException closed) {
                throw new IllegalStateException(closed);
            }
        }

        List<String> lookedAt(Look look) {
            List<String> answers = new ArrayList<>();
            switch (look) {
                case NOW:
                    rows(answers);
                    break;
                case TOLD_BY_HAND:
                    toldByHand(answers);
                    break;
                case TEXT:
                    add(answers, "counted 3");
                    add(answers, "read");
                    rows(answers);
                    break;
                case IMAGE:
                    add(answers, "undo");
                    rows(answers);
                    toldByHand(answers);
                    break;
                case TAPES_BELOW:
                    tapes(answers, 0);
                    break;
                default:
                    tapes(answers, 3);
                    break;
            }
            return answers;
        }

        private void add(List<String> answers, String call) {
            answers.add(call + " answered " + answer(call));
        }

        private void rows(List<String> answers) {
            for (int what = 0; what <= 9; what++) {
                add(answers, "told " + what);
            }
            long many = answer("told 0");
            for (int block = 0; block < many; block++) {
                add(answers, "of " + block + " 0");
                add(answers, "of " + block + " 1");
                add(answers, "of " + block + " 2");
            }
        }

        private void toldByHand(List<String> answers) {
            for (int what = 0; what <= 3; what++) {
                add(answers, "counted " + what);
            }
            long many = answer("told 0");
            for (int block = 0; block < many; block++) {
                add(answers, "fits " + block + " 0");
                add(answers, "fits " + block + " 1");
            }
            for (int what = 0; what <= 2; what++) {
                add(answers, "after " + what);
            }
            add(answers, "looked");
        }

        // The sort shows by what an item becomes.
        private void tapes(List<String> answers, int first) {
            for (int tape = first; tape < first + 3; tape++) {
                for (int i = 0; i < 60; i++) {
                    add(answers, "peek " + tape + " " + i);
                }
                add(answers, "item " + tape + " 0 81985529216486895");
                add(answers, "peek " + tape + " 0");
            }
        }
    }

    private static long number(String told) {
        switch (told) {
            case "min":
                return Integer.MIN_VALUE;
            case "max":
                return Integer.MAX_VALUE;
            case "MIN":
                return Long.MIN_VALUE;
            case "MAX":
                return Long.MAX_VALUE;
            default:
                break;
        }
        if (told.charAt(0) == 'p') {
            int bits = 0;
            for (char point : told.substring(1).toCharArray()) {
                bits |= 1 << point - '0';
            }
            return bits;
        }
        return told.charAt(0) == 'b' ? blockNumber(told.substring(1)) : Long.parseLong(told);
    }

    // Ahead of a block are all blocks whose greatest point is less, then those whose next one is less, and so on.
    private static long blockNumber(String points) {
        int number = 0;
        for (int i = 0; i < points.length(); i++) {
            int p = points.charAt(i) - '0';
            number += i == 0 ? p : i == 1 ? p * (p - 1) / 2 : p * (p - 1) * (p - 2) / 6;
        }
        return number;
    }

    private static Map<String, Method> methods() {
        Map<String, Method> methods = new HashMap<>();
        for (Method method : TradedDesigns.class.getDeclaredMethods()) {
            methods.put(method.getName(), method);
        }
        return methods;
    }
}
