import java.util.ArrayList;
import java.util.List;

/** All that can be asked of an object, as it is now. */
final class Look {
    private final List<String> calls = new ArrayList<>();
    private final List<Long> answers = new ArrayList<>();

    Look(TradedDesigns x) {
        for (int what = 0; what <= 9; what++) {
            add("told(" + what + ")", x.told(what));
        }
        int many = x.told(0);
        for (int block = 0; block < many; block++) {
            for (int what = 0; what <= 2; what++) {
                add("of(" + block + ", " + what + ")", x.of(block, what));
            }
        }
        for (int what = 0; what <= 3; what++) {
            add("counted(" + what + ")", x.counted(what));
        }
        add("fits(0, 0)", x.fits(0, 0));
        add("fits(0, 1)", x.fits(0, 1));
        for (int what = 0; what <= 2; what++) {
            add("after(" + what + ")", x.after(what));
        }
        add("looked()", x.looked());
        for (int tape = 0; tape < 6; tape++) {
            for (int i = 0; i < 3; i++) {
                add("peek(" + tape + ", " + i + ")", x.peek(tape, i));
            }
        }
    }

    private void add(String call, long answer) {
        calls.add(call);
        answers.add(answer);
    }

    /** The first call that another look answers otherwise, or nothing. */
    String changeTo(Look other) {
        if (calls.size() != other.calls.size()) {
            return "how much there is";
        }
        for (int i = 0; i < calls.size(); i++) {
            if (!answers.get(i).equals(other.answers.get(i))) {
                return calls.get(i);
            }
        }
        return "";
    }
}
