import java.util.Arrays;
import java.util.List;

/** The edges of promises 12 and 13, and what the Terms say of the text. */
public final class EdgesTextTest {
    private static final String TWELVE = "turn;turn;turn;turn;turn;turn;turn;turn;turn;turn;turn;keep";

    public static void main(String[] args) {
        Edges.run(EdgesTextTest.class);
    }

    private static String many(String text, int times) {
        return text.repeat(times);
    }

    // A fault changes nothing but that the text is empty then.
    private static void fault(String text, int place) {
        new Run("count 0 5", "count 19 -6", "put 0 1", "keep", "put 3 1").reads(text, -10 - place).due("counted 3", 0)
                .counts(5, 0, 0, 0, 0, 0, 0, 0, 0, 0, 0, 0, 0, 0, 0, 0, 0, 0, 0, -6).blocksIn(1, "012 123").blocksIn(2, "012")
                .due("told 9", 632);
    }

    @Holds(says = "A set-up is read from THE TEXT (bytes, 100 at most)")
    static void hundredBytes() {
        String most = many("put 000000;", 8) + "put 00001;tw";
        Check.due("bytes", most.length(), 100);
        new Run().feeds(most).refused("feed 105", -4).due("counted 3", 100).due("read", -110).due("feed 105", 1);
        String[] ends = {"put 1;put 1;", "put 0001;put", "put 001;put ", "put 01;put -", "put 001;size", "turn;count 1"};
        for (String end : ends) {
            Check.due("bytes of '" + end + "'", end.length(), 12);
            fault(many("put 000000;", 8) + end, 100);
        }
        String last = many("put 000000;", 8) + "put 3;put 19";
        Check.due("bytes", last.length(), 100);
        new Run().reads(last, 10).blocksIn(1, "123 345");
        new Run().reads(last.substring(0, 99), 10).blocksIn(1, "013 123");
    }

    @Holds(says = "CLAUSES, 1 to 12")
    static void clauses() {
        fault("", 0);
        new Run().reads("turn", 1).reads("turn;turn", 2).reads(TWELVE.substring(5), 11).reads(TWELVE, 12);
        fault(TWELVE + ";turn", TWELVE.length());
        fault(TWELVE + ";put 0", TWELVE.length());
        fault(TWELVE.substring(0, 55), 55);
    }

    @Holds(says = "with ; between (none behind the twelfth)")
    static void signBetween() {
        fault(TWELVE + ";", TWELVE.length());
        fault(TWELVE + ";;", TWELVE.length());
        fault("turn;", 5);
        fault(";turn", 0);
        fault(";", 0);
        fault("turn;;keep", 5);
        fault("turnkeep", 4);
        fault("turn,keep", 4);
        fault("turn keep", 4);
        fault("turn:keep", 4);
        fault("put 1put 2", 5);
        new Run().reads("turn;keep", 2);
    }

    @Holds(says = "each a WORD and its NUMBERS, one blank ahead of each NUMBER")
    static void wordsAndNumbers() {
        fault("size", 4);
        fault("size 5", 6);
        fault("size 5 2", 8);
        fault("size 5 2 1 0", 10);
        fault("count", 5);
        fault("count 1", 7);
        fault("count 1 1 1", 9);
        fault("twist", 5);
        fault("twist 123456", 12);
        fault("twist 123456 1 1", 14);
        fault("put", 3);
        fault("put 1 1", 5);
        fault("turn 1", 4);
        fault("swap 1", 4);
        fault("keep 1", 4);
        fault("differ 1", 6);
        fault("put1", 3);
        fault("put  1", 4);
        fault(" put 1", 0);
        fault("put 1 ", 5);
        fault("put\t1", 3);
        fault("count 1  1", 8);
        fault("count 1,1", 7);
        fault("count1 1", 5);
        fault("1", 0);
        fault("5 put", 0);
    }

    @Holds(says = "NUMBER: perhaps - ahead, then 1 to 6 digits")
    static void numbers() {
        fault("put ", 4);
        fault("put -", 5);
        fault("put ;turn", 4);
        fault("put -;turn", 5);
        new Run().reads("put 1", 1).reads("put -0", 1).blocksIn(1, "012 013");
        new Run().reads("put 000001", 1).reads("put -000000", 1).blocksIn(1, "012 013");
        fault("put 0000001", 10);
        fault("put -0000001", 11);
        fault("put 1234567", 10);
        fault("put --1", 5);
        fault("put 1-", 5);
        fault("put 1-1", 5);
        fault("put +1", 4);
        fault("put 0x1", 5);
        fault("put 1.0", 5);
        fault("put /", 4);
        fault("put :", 4);
        new Run().reads("put 999999", 0).reads("put -999999", 0).reads("put 9", 1).blocksIn(1, "234");
        new Run().reads("count 00000 -99", 1).reads("count 000001 000099", 1).due("of 0 0", 1).due("of 1 0", 199);
        fault("count 0000001 1", 12);
        fault("count 1 0000001", 14);
    }

    @Holds(says = "size V K T (as size())")
    static void sizeWord() {
        Run.full(6, 3, 2).does("read").reads("size 4 2 1", 1).due("told 9", 421).due("told 5", 0).due("told 7", 0)
                .due("counted 0", 3).reads("size 8 3 2", 1).due("told 9", 832).reads("size 8 3 2", 1).reads("size 9 3 2", 0)
                .reads("size 3 3 2", 0).reads("size 6 4 2", 0).reads("size 6 1 1", 0).reads("size 6 3 3", 0)
                .reads("size 6 3 0", 0).reads("size -6 3 2", 0).due("told 9", 832);
    }

    @Holds(says = "count BLOCK C (as count())")
    static void countWord() {
        new Run().reads("count 19 99", 1).reads("count 0 -99", 1).reads("count 20 1", 0).reads("count -1 1", 0)
                .reads("count 1 100", 0).reads("count 1 -100", 0).counts(-99, 0, 0, 0, 0, 0, 0, 0, 0, 0, 0, 0, 0, 0, 0, 0, 0, 0,
                0, 99);
    }

    @Holds(says = "twist TWIST N (as twist())")
    static void twistWord() {
        new Run().reads("twist 123456 9", 1).due("told 1", 36).reads("twist 123456 -9", 1).due("told 1", 0)
                .reads("twist 123456 0", 0).reads("twist 123456 10", 0).reads("twist 123456 -10", 0).reads("twist 123455 1", 0)
                .reads("twist 12345 1", 0).reads("twist 123457 1", 0).reads("twist -123456 1", 0).due("told 1", 0)
                .does("count b024 99").reads("twist 123456 1", 0).reads("twist 123456 -1", 1).due("of b024 0", 198);
        new Run("size 4 2 1").reads("twist 001234 1", 1).writes("+02-12-03+13");
    }

    @Holds(says = "put BLOCK (it is in THE DESIGN then, if it wasn't, else not any more; refused, if there is no such BLOCK)")
    static void putWord() {
        new Run().reads("put 0", 1).blocksIn(1, "012").reads("put 19", 1).blocksIn(1, "012 345").reads("put 0", 1)
                .blocksIn(1, "345").reads("put 20", 0).reads("put -1", 0).blocksIn(1, "345").reads("put 1;put 1;put 1", 3)
                .blocksIn(1, "013 345").blocksIn(2, "");
        new Run("size 4 2 1").reads("put 6", 0).reads("put 5", 1).blocksIn(1, "23");
        new Run("size 8 3 2").reads("put 56", 0).reads("put 55", 1).blocksIn(1, "567");
    }

    @Holds(says = "turn (as turn())")
    static void turnWord() {
        new Run().reads("turn", 1).due("told 1", 0).does("count 0 99", "count 1 -9").reads("turn", 1).due("told 1", 9)
                .due("of 0 0", 1);
    }

    @Holds(says = "swap (as swap())")
    static void swapWord() {
        new Run("size 4 2 1").reads("swap", 0).does("twist 1234 1", "put b12 1").reads("swap", 0).blocksIn(1, "12")
                .does("put b03 1").reads("swap", 1).blocksIn(1, "02 13").reads("swap", 0).blocksIn(1, "02 13");
    }

    @Holds(says = "keep (as keep())")
    static void keepWord() {
        new Run().reads("keep", 1).does("put 0 1").reads("keep", 1).blocksIn(2, "012").does("put 0 0").reads("keep", 1)
                .blocksIn(2, "");
    }

    @Holds(says = "differ (as differ())")
    static void differWord() {
        new Run("count 0 9").reads("differ", 1).due("told 1", 0).does("put 0 1").reads("differ", 1).writes("+012")
                .does("keep", "put 0 0").reads("differ", 1).writes("-012");
    }

    @Holds(says = "WORDS:")
    static void words() {
        String[] words = {"size 6 3 2", "count 0 0", "twist 123456 1", "put 0", "turn", "swap", "keep", "differ"};
        for (String clause : words) {
            String word = clause.split(" ")[0];
            for (int place = 0; place < word.length(); place++) {
                // the sign behind c or s in the alphabet begins other words
                boolean other = place == 0 && (word.charAt(0) == 's' || word.charAt(0) == 'c');
                fault(word.substring(0, place), place);
                fault(clause.substring(0, place) + "#" + clause.substring(place), place);
                fault(clause.substring(0, place) + Character.toUpperCase(clause.charAt(place)) + clause.substring(place + 1), place);
                if (!other) {
                    fault(clause.substring(0, place) + (char) (clause.charAt(place) + 1), place);
                }
            }
        }
        fault("sw", 2);
        fault("tu", 2);
        fault("swist 123456 1", 2);
        fault("swop", 2);
        fault("twrn", 2);
        fault("turns", 4);
        fault("putt 1", 3);
        fault("clear", 1);
        fault("exchange 0 1", 0);
    }

    @Holds(says = "Nothing else stands between")
    static void nothingElse() {
        fault("turn ", 4);
        fault("turn ;keep", 4);
        fault("turn; keep", 5);
        fault("turn\n", 4);
        fault("turn\n;keep", 4);
        fault("\u0000turn", 0);
        fault("turn\u0000", 4);
        fault("turn;\u0000keep", 5);
        fault("put \u00001", 4);
        fault("put 1\u007f", 5);
        fault("(turn)", 0);
        fault("turn.", 4);
    }

    // Beside the model, which looks for the fault by another way, with each byte behind each part of a text.
    @Holds(says = "The FAULT: the place of the first byte with which none begins so")
    static void faults() {
        String[] texts = {"size 5 3 1;count 0 -17;put 123456;turn", "twist -123456 9;swap;keep;differ", TWELVE};
        for (String text : texts) {
            for (int length = 0; length <= text.length(); length++) {
                TradedDesigns x = new TradedDesigns();
                Model model = new Model();
                for (int sign = 0; sign <= 127; sign++) {
                    if (sign % 4 == 0) {
                        x = new TradedDesigns();
                        model = new Model();
                    }
                    String whole = text.substring(0, length) + (char) sign + text.substring(Math.min(length + 1, text.length()));
                    for (char fed : whole.toCharArray()) {
                        x.feed(fed);
                        model.feed(fed);
                    }
                    Check.due("read of '" + whole + "'", x.read(), model.read());
                }
            }
        }
    }

    @Holds(says = "(the end of THE TEXT, if it ends too early)")
    static void endsTooEarly() {
        String text = "size 5 3 1;count 0 -17;twist 12345 -9;put 3;turn;swap;keep;differ";
        List<Integer> whole = Arrays.asList(10, 21, 22, 37, 43, 48, 53, 58, 65);
        for (int length = 0; length <= text.length(); length++) {
            int read = Check.read(new TradedDesigns(), text.substring(0, length));
            if (whole.contains(length)) {
                Check.due("a whole set-up of " + length, read >= 0 ? 1 : 0, 1);
            } else {
                Check.due("a set-up that ends at " + length, read, -10 - length);
            }
        }
    }

    @Holds(says = "Without it they are done, one behind the other; those that would be refused aren't")
    static void doneOneBehindTheOther() {
        new Run().reads("put 0;keep;put 0;put 1;differ;turn", 6).writes("+012-013").blocksIn(1, "013").blocksIn(2, "012");
        new Run().reads("put 10;size 4 2 1;put 10;put 5;count 6 1;count 5 1", 4).blocksIn(1, "23").writes("+23");
        new Run().reads("size 9 9 9;count 99 0;twist 1 1;put 99;swap", 0).due("told 9", 632).due("told 5", 0);
        new Run().reads("count 0 100;count 0 99;count 0 -100", 1).due("of 0 0", 199);
        new Run("size 4 2 1").reads("swap;twist 1234 1;swap;put 2;put 3;swap;swap", 4).blocksIn(1, "02 13");
    }

    @Holds(promise = 12, says = "A sign (0 .. 127) comes behind THE TEXT's: how many it has")
    static void feed() {
        new Run().due("feed 0", 1).due("feed 127", 2).due("counted 3", 2).due("read", -10);
        new Run("feed 116", "feed 117", "feed 114").due("feed 110", 4).due("read", 1);
        Run run = new Run();
        for (int i = 1; i <= 100; i++) {
            run.due("feed " + (i + 20), i);
        }
    }

    @Holds(promise = 12, says = "BAD")
    static void feedBad() {
        Run.full(6, 3, 2).refused("feed -1", -2).refused("feed 128", -2).refused("feed 255", -2).refused("feed 256", -2)
                .refused("feed min", -2).refused("feed max", -2).refused("feed -128", -2);
    }

    @Holds(promise = 12, says = "FULL")
    static void feedFull() {
        new Run().feeds(many("t", 99)).due("feed 116", 100).refused("feed 116", -4).refused("feed 0", -4).due("read", -11)
                .due("feed 116", 1);
    }

    @Holds(promise = 12, says = "BAD; FULL")
    static void feedRefusalsInOrder() {
        new Run().feeds(many("t", 100)).refused("feed 128", -2).refused("feed -1", -2).refused("feed 127", -4);
    }

    @Holds(promise = 13, says = "THE TEXT, which is empty then (by a FAULT, too), is a set-up")
    static void readEmpties() {
        new Run().reads("turn", 1).due("counted 3", 0).due("read", -10).reads("tusk", -12).due("counted 3", 0)
                .due("read", -10).reads("put 99", 0).due("counted 3", 0).reads("turn", 1);
    }

    // Nothing of a longer text stands behind a shorter one.
    @Holds(promise = 13, says = "THE TEXT, which is empty then (by a FAULT, too), is a set-up")
    static void readShorterTexts() {
        new Run().reads("turn;keep", 2).reads("turn", 1).reads("turn;", -15).reads("put 12", 1).reads("put 1", 1)
                .blocksIn(1, "013 125").reads("put ", -14).reads("put", -13).reads("count 1 23", 1).reads("count 1 2", 1)
                .due("of 1 0", 102).reads("count 1", -17).reads("count -", -17).reads("", -10);
        new Run().reads("size 5 3 1;put 0", 2).reads("size 6 3 2", 1).reads("size 6 3", -18).reads("siz", -13).reads("s", -11);
    }

    @Holds(promise = 13, says = "how many CLAUSES were done")
    static void readDone() {
        new Run().reads("put 99", 0).reads("put 0", 1).reads("put 99;put 1;put -1", 1).reads(TWELVE, 12)
                .reads("put 0;put 1;put 2;put 3;put 4;put 5;put 6;put 7;put 8;put 9;put 10;put 20", 11)
                .reads("size 5 2 1;count 9 1;twist 1234 1;put 9;turn;swap;keep;differ", 7);
    }

    @Holds(promise = 13, says = "-10 less the FAULT")
    static void readFault() {
        Run.full(6, 3, 2).does("read").due("read", -10).reads("x", -10).reads("tx", -11).reads("turn;put 9;size 6 3", -29)
                .reads(many("put 1;", 12), -10 - 71).reads(TWELVE + ";", -10 - 59).due("told 9", 632);
        new Run().feeds(many("put 000000;", 9)).due("feed 116", 100).due("read", -110);
    }
}
