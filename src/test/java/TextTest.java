/** Promises 12 and 13: the text, and set-ups read from it. */
public final class TextTest {
    public static void main(String[] args) {
        feed();
        words();
        faults();
        numbers();
        clauses();
        wholeText();
        refusedClauses();
        faultChangesNothing();
        Check.end();
    }

    private static void feed() {
        TradedDesigns x = new TradedDesigns();
        Check.due("12 below", x.feed(-1), -2);
        Check.due("12 above", x.feed(128), -2);
        Check.due("12 far", x.feed(Integer.MIN_VALUE), -2);
        Check.due("12 none came", x.counted(3), 0);
        Check.due("12 least", x.feed(0), 1);
        Check.due("12 greatest", x.feed(127), 2);
        for (int i = 3; i <= 100; i++) {
            Check.due("12 feed", x.feed('k'), i);
        }
        Check.due("12 full", x.feed('k'), -4);
        Check.due("12 bad ahead of full", x.feed(128), -2);
        Check.due("12 100 signs", x.counted(3), 100);
        Check.due("13 fault at 0", x.read(), -10);
        Check.due("13 the text is empty then", x.counted(3), 0);
        Check.due("12 feed then", x.feed('k'), 1);
    }

    private static void words() {
        TradedDesigns x = new TradedDesigns();
        Check.due("13 size", Check.read(x, "size 4 2 1"), 1);
        Check.due("13 size", x.told(9), 421);
        Check.due("13 count", Check.read(x, "count 1 -17"), 1);
        Check.due("13 count", x.of(1, 0), 83);
        Check.due("13 turn", Check.read(x, "turn"), 1);
        Check.due("13 turn", x.of(1, 0), 117);
        Check.due("13 twist", Check.read(x, "count 1 0;twist 1234 1"), 2);
        Check.text("13 twist", Check.written(x), "+02-12-03+13");
        Check.due("13 put", Check.read(x, "put 2"), 1);
        Check.due("13 put", x.of(2, 1), 1);
        Check.due("13 put again", Check.read(x, "put 2"), 1);
        Check.due("13 put again", x.of(2, 1), 0);
        Check.due("13 swap", Check.read(x, "put 2;put 3;swap"), 3);
        Check.due("13 swap", x.of(1, 1), 1);
        Check.due("13 swap", x.of(2, 1), 0);
        Check.due("13 keep", Check.read(x, "keep"), 1);
        Check.due("13 keep", x.told(7), 2);
        Check.due("13 differ", Check.read(x, "put 0;differ"), 2);
        Check.text("13 differ", Check.written(x), "+01");
        Check.due("13 empty", x.counted(3), 0);
    }

    private static void fault(String text, int place) {
        TradedDesigns x = new TradedDesigns();
        Check.feed(x, text);
        Check.due("13 '" + text + "'", x.read(), -10 - place);
    }

    private static void faults() {
        fault("", 0);
        fault(" turn", 0);
        fault(";", 0);
        fault("x", 0);
        fault("Turn", 0);
        fault("s", 1);
        fault("sx", 1);
        fault("t", 1);
        fault("ta", 1);
        fault("two", 2);
        fault("tux", 2);
        fault("twi", 3);
        fault("turt", 3);
        fault("sizw", 3);
        fault("swat", 3);
        fault("sise 5 2 1", 2);
        fault("keeq", 3);
        fault("pus 1", 2);
        fault("coumt 1 1", 3);
        fault("difer", 3);
        fault("size", 4);
        fault("size5 2 1", 4);
        fault("size ", 5);
        fault("size  5 2 1", 5);
        fault("size 5", 6);
        fault("size 5 2", 8);
        fault("size 5 2 ", 9);
        fault("size 5 2 1 ", 10);
        fault("size 5;2 1", 6);
        fault("size 5 2 1 1", 10);
        fault("count 1", 7);
        fault("count 1;turn", 7);
        fault("put", 3);
        fault("put 1 1", 5);
        fault("put +1", 4);
        fault("put --1", 5);
        fault("put -", 5);
        fault("put 1-", 5);
        fault("turn ", 4);
        fault("turn 1", 4);
        fault("turns", 4);
        fault("turn;", 5);
        fault("turn; swap", 5);
        fault("turn;;swap", 5);
        fault("turn,swap", 4);
        fault("turn;swa", 8);
        fault("twist 1425 - 1", 12);
        fault("turn\u0000", 4);
    }

    private static void numbers() {
        TradedDesigns x = new TradedDesigns();
        Check.due("13 noughts ahead", Check.read(x, "count 000003 -00017"), 1);
        Check.due("13 noughts ahead", x.of(3, 0), 83);
        Check.due("13 minus nought", Check.read(x, "put -0"), 1);
        Check.due("13 minus nought", x.of(0, 1), 1);
        Check.due("13 six digits", Check.read(x, "twist 123456 1"), 1);
        Check.due("13 six digits", x.of(5, 0), 101);
        fault("put 0000001", 10);
        fault("put -0000001", 11);
        fault("count 1234567 1", 12);
        Check.due("13 refused numbers", Check.read(x, "put 999999;put -999999;put -1;put 20;put 19"), 1);
        Check.due("13 last block", x.of(19, 1), 1);
    }

    private static void clauses() {
        String twelve = "put 0;put 1;put 2;put 3;put 4;put 5;put 6;put 7;put 8;put 9;turn;keep";
        TradedDesigns x = new TradedDesigns();
        Check.due("13 twelve", Check.read(x, twelve), 12);
        Check.due("13 twelve", x.told(7), 10);
        fault(twelve + ";", twelve.length());
        fault(twelve + ";turn", twelve.length());
        fault(twelve + " ", twelve.length());
        Check.due("13 eleven", Check.read(x, "turn;turn;turn;turn;turn;turn;turn;turn;turn;turn;turn"), 11);
        fault("turn;turn;turn;turn;turn;turn;turn;turn;turn;turn;turn;", 55);
    }

    private static void wholeText() {
        String ten = "put 000000;put 000001;put 000002;put 000003;put 000004;put 000005;put 000006;put 000007;put 000008;";
        Check.due("99 signs", ten.length(), 99);
        fault(ten + "t", 100);
        String full = ten.substring(0, 88) + "put 0000;put";
        Check.due("100 signs", full.length(), 100);
        Check.due("13 ends too early at 100", Check.read(new TradedDesigns(), full), -110);
        String whole = ten.substring(0, 88) + ";put 9;turn;";
        Check.due("13 ;;", Check.read(new TradedDesigns(), whole), -98);
        String good = ten.substring(0, 87) + ";put 9;turn;";
        Check.due("99 signs", good.length(), 99);
        Check.due("13 nothing behind ;", Check.read(new TradedDesigns(), good), -109);
        String best = ten.substring(0, 87) + ";put 09;count";
        Check.due("100 signs", best.length(), 100);
        Check.due("13 count at the end", Check.read(new TradedDesigns(), best), -110);
        String last = ten.substring(0, 87) + ";put 9;put 10";
        Check.due("100 signs", last.length(), 100);
        TradedDesigns x = new TradedDesigns();
        Check.due("13 100 signs that are right", Check.read(x, last), 10);
        Check.due("13 all put", x.told(5), 10);
        Check.due("13 last put", x.of(10, 1), 1);
    }

    private static void refusedClauses() {
        TradedDesigns x = new TradedDesigns();
        Check.due("13 refused", Check.read(x, "size 9 3 2;count 20 1;count 0 100;twist 123455 1;swap"), 0);
        Check.due("13 refused", Check.read(x, "twist 123456 0;put 20;twist 123456 10;keep"), 1);
        Check.due("13 state", Check.read(x, "count 5 99;twist 123456 1;count 5 98;twist 123456 1"), 3);
        Check.due("13 one behind the other", Check.read(x, "put 10;size 4 2 1;put 10;put 3"), 3);
        Check.due("13 sizes then", x.told(5), 1);
        Check.due("13 no count changed", Check.read(x, "count 3 -99;count 3 100;put 99;twist 1324 0"), 1);
        Check.due("13 no count changed", x.of(3, 0), 1);
        Check.due("13 nothing refused", Check.read(x, "turn;keep;differ"), 3);
    }

    private static void faultChangesNothing() {
        TradedDesigns x = new TradedDesigns();
        x.put(1, 1);
        x.count(2, 3);
        Look before = new Look(x);
        Check.feed(x, "size 5 2 1;put 0;keep;turn;swop");
        Check.due("13 fault at the end", x.read(), -10 - 29);
        Check.text("13 a fault changes nothing", before.changeTo(new Look(x)), "");
    }
}
