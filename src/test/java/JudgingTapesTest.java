/** Promises 33 to 40: judging, the image, how many there are, tapes. */
public final class JudgingTapesTest {
    private static final long NO = Long.MIN_VALUE;

    public static void main(String[] args) {
        judge();
        judgeEnds();
        image();
        imageHoldsAll();
        counted();
        tape();
        item();
        peek();
        shift();
        shiftRefused();
        Check.end();
    }

    private static void tapeOfCounts(TradedDesigns x, int tape, int from) {
        for (int block = 0; block < x.told(0); block++) {
            x.item(tape, from + block, x.of(block, 0) - 100);
        }
    }

    private static void judge() {
        TradedDesigns x = new TradedDesigns();
        x.tape(0, 0, 20);
        Check.due("33 all 0", x.judge(0, 0), -5);
        x.count(19, 99);
        Check.due("33 the last", x.judge(0, 0), 19);
        x.count(0, -99);
        Check.due("33 the first", x.judge(0, 0), 0);
        tapeOfCounts(x, 0, 0);
        Check.due("33 none", x.judge(0, 0), -5);
        x.item(0, 7, 1);
        Check.due("33 between", x.judge(0, 0), 7);
        x.tape(1, 0, 60);
        tapeOfCounts(x, 1, 40);
        Check.due("33 from 40 on", x.judge(1, 40), -5);
        Check.due("33 from 39 on", x.judge(1, 39), 0);
        x.item(1, 43, 5);
        Check.due("33 from 40 on, otherwise", x.judge(1, 40), 3);
        x.item(1, 43, 256);
        Check.due("33 from 40 on, lowest bits", x.judge(1, 40), -5);
        Check.due("33 no tape", x.judge(6, 0), -1);
        Check.due("33 no tape", x.judge(-1, 0), -1);
        for (int sort = 1; sort <= 4; sort++) {
            x.tape(2, sort, 60);
            Check.due("33 sort " + sort, x.judge(2, 0), -12);
            Check.due("33 sort " + sort, x.judge(2, -1), -12);
            Check.due("33 sort " + sort, x.judge(2, 60), -12);
        }
        x.tape(2, 3, 0);
        Check.due("33 a row of 0 longs", x.judge(2, 0), -12);
    }

    private static void judgeEnds() {
        TradedDesigns x = new TradedDesigns();
        Check.due("33 holds nothing", x.judge(5, 0), 100);
        Check.due("33 holds nothing", x.judge(5, -1), 100);
        x.tape(0, 0, 0);
        Check.due("33 a row of 0", x.judge(0, 0), 100);
        x.tape(0, 0, 19);
        Check.due("33 one too few", x.judge(0, 0), 119);
        Check.due("33 from 1 on", x.judge(0, 1), 118);
        Check.due("33 from 18 on", x.judge(0, 18), 101);
        Check.due("33 the end", x.judge(0, 19), 100);
        Check.due("33 beyond", x.judge(0, 20), 100);
        Check.due("33 far beyond", x.judge(0, Integer.MAX_VALUE), 100);
        Check.due("33 below", x.judge(0, -1), 100);
        Check.due("33 far below", x.judge(0, Integer.MIN_VALUE), 100);
        x.count(18, 1);
        Check.due("33 otherwise ahead of the end", x.judge(0, 0), 18);
        x.count(18, 0);
        x.count(19, 1);
        Check.due("33 otherwise behind the end", x.judge(0, 0), 119);
    }

    private static void image() {
        TradedDesigns x = new TradedDesigns();
        Check.due("35 there is none", x.undo(), -3);
        x.put(3, 1);
        x.put(4, 1);
        Check.due("34 image", x.image(), 2);
        x.put(5, 1);
        Check.due("35 undo", x.undo(), 2);
        Check.due("35 not in", x.of(5, 1), 0);
        x.put(3, 0);
        x.put(4, 0);
        Check.due("35 undo again", x.undo(), 2);
        Check.due("35 in", x.of(3, 1), 1);
        x.put(3, 0);
        Check.due("34 image anew", x.image(), 1);
        x.put(3, 1);
        Check.due("35 undo", x.undo(), 1);
        Check.due("35 not in", x.of(3, 1), 0);
        TradedDesigns other = new TradedDesigns();
        Check.due("35 each has its own", other.undo(), -3);
        Check.due("34 empty", other.image(), 0);
        other.put(0, 1);
        Check.due("35 empty", other.undo(), 0);
    }

    private static void imageHoldsAll() {
        TradedDesigns x = new TradedDesigns();
        x.size(5, 3, 1);
        x.count(0, 7);
        x.count(9, -7);
        x.put(1, 1);
        x.keep();
        x.put(2, 1);
        x.see(1, 7);
        x.see(2, 7);
        x.event(4, 0);
        x.event(3, 5);
        x.event(1, 0);
        x.book(9, -7);
        x.book(0, 6);
        Look before = new Look(x);
        Check.due("34 image", x.image(), 2);
        x.size(8, 2, 1);
        x.count(0, 1);
        x.count(27, 5);
        x.put(27, 1);
        x.keep();
        x.see(-1, 0);
        x.see(8, 1);
        x.event(-1, 0);
        x.event(4, 7);
        x.book(-1, 0);
        x.book(0, 0);
        x.book(1, 0);
        x.book(2, 0);
        Check.due("35 undo", x.undo(), 2);
        Check.text("35 all is as it was", before.changeTo(new Look(x)), "");
        Check.due("35 sizes", x.told(9), 531);
        Check.due("35 block", x.block(9), 28);
        Check.due("35 no more blocks", x.block(10), -1);
        Check.due("35 fits as it was", x.fits(0, 1), 17);
        x.size(8, 3, 2);
        Check.due("35 counts beyond are 0", x.of(27, 0), 100);
        Check.due("35 blocks beyond are not in", x.of(27, 1), 0);
        x.undo();
        x.feed('t');
        x.tape(0, 0, 5);
        x.item(0, 4, 9);
        x.undo();
        Check.due("35 the text stays", x.counted(3), 1);
        Check.due("35 tapes stay", x.peek(0, 4), 9);
    }

    private static void counted() {
        TradedDesigns x = new TradedDesigns();
        x.see(0, 0);
        x.event(1, 0);
        x.event(1, 0);
        x.book(0, 0);
        x.book(0, 0);
        x.book(0, 0);
        Check.feed(x, "abcd");
        for (int what = 0; what <= 3; what++) {
            Check.due("36 counted " + what, x.counted(what), what + 1);
        }
        Check.due("36 bad", x.counted(4), -2);
        Check.due("36 bad", x.counted(-1), -2);
        Check.due("36 bad", x.counted(Integer.MIN_VALUE), -2);
    }

    private static void tape() {
        TradedDesigns x = new TradedDesigns();
        for (int sort = 0; sort <= 4; sort++) {
            Check.due("37 tape", x.tape(sort, sort, 60), 1);
            Check.due("37 all 0", x.peek(sort, 59), 0);
            Check.due("37 no more", x.peek(sort, 60), NO);
        }
        x.item(0, 0, 5);
        Check.due("37 no tape", x.tape(6, 9, 61), -1);
        Check.due("37 no tape", x.tape(-1, -1, 0), -1);
        Check.due("37 sort", x.tape(0, 5, 0), -2);
        Check.due("37 sort", x.tape(0, -2, -1), -2);
        Check.due("37 above 60", x.tape(0, 0, 61), -2);
        Check.due("37 below 0", x.tape(0, 0, -1), -14);
        Check.due("37 far below 0", x.tape(0, 4, Integer.MIN_VALUE), -14);
        Check.due("37 a row of 0", x.tape(0, 0, 0), 1);
        Check.due("37 no place", x.item(0, 0, 1), -13);
        Check.due("37 anew", x.tape(0, 2, 3), 1);
        Check.due("37 all 0 anew", x.peek(0, 0), 0);
        Check.due("37 nothing", x.tape(0, -1, 61), 1);
        Check.due("37 nothing", x.item(0, 0, 1), -11);
        Check.due("37 nothing", x.tape(1, -1, -5), 1);
        Check.due("37 nothing", x.peek(1, 0), NO);
    }

    private static void item() {
        TradedDesigns x = new TradedDesigns();
        long[] values = {0, 1, -1, 127, 128, 255, 256, -129, 32767, 32768, 65536, 1L << 31, (1L << 31) - 1, 1L << 32,
            Long.MAX_VALUE, Long.MIN_VALUE, 0x123456789abcdef0L};
        for (int sort = 0; sort <= 4; sort++) {
            x.tape(sort, sort, 4);
            for (long v : values) {
                Check.due("38 item", x.item(sort, 3, v), 1);
                long[] want = {(byte) v, (short) v, (int) v, v, v != 0 ? 1 : 0};
                Check.due("38 sort " + sort + " of " + v, x.peek(sort, 3), want[sort]);
                Check.due("38 no other", x.peek(sort, 2), 0);
            }
            Check.due("38 place", x.item(sort, 4, 1), -13);
            Check.due("38 place", x.item(sort, -1, 1), -13);
            Check.due("38 place", x.item(sort, Integer.MAX_VALUE, 1), -13);
        }
        Check.due("38 none", x.item(6, 0, 1), -1);
        Check.due("38 none", x.item(-1, 0, 1), -1);
        Check.due("38 nothing", x.item(5, -1, 1), -11);
        Check.due("38 place", x.item(0, 4, 1), -13);
    }

    private static void peek() {
        TradedDesigns x = new TradedDesigns();
        x.tape(0, 3, 2);
        x.item(0, 1, 77);
        Check.due("39 peek", x.peek(0, 1), 77);
        Check.due("39 peek", x.peek(0, 0), 0);
        Check.due("39 place", x.peek(0, 2), NO);
        Check.due("39 place", x.peek(0, -1), NO);
        Check.due("39 nothing", x.peek(1, 0), NO);
        Check.due("39 no tape", x.peek(6, 0), NO);
        Check.due("39 no tape", x.peek(-1, 0), NO);
        Check.due("39 far", x.peek(Integer.MIN_VALUE, Integer.MIN_VALUE), NO);
    }

    private static long[] row(TradedDesigns x, int tape, int n) {
        long[] row = new long[n];
        for (int i = 0; i < n; i++) {
            row[i] = x.peek(tape, i);
        }
        return row;
    }

    private static TradedDesigns oneToSix() {
        TradedDesigns x = new TradedDesigns();
        x.tape(0, 0, 6);
        x.tape(1, 0, 4);
        for (int i = 0; i < 6; i++) {
            x.item(0, i, i + 1);
        }
        return x;
    }

    private static void shift() {
        TradedDesigns x = oneToSix();
        Check.due("40 shift", x.shift(0, 2, 1, 1, 3), 3);
        Check.row("40 other", row(x, 1, 4), 0, 3, 4, 5);
        Check.row("40 itself", row(x, 0, 6), 1, 2, 3, 4, 5, 6);
        Check.due("40 up", x.shift(0, 0, 0, 2, 4), 4);
        Check.row("40 up", row(x, 0, 6), 1, 2, 1, 2, 3, 4);
        Check.due("40 down", x.shift(0, 1, 0, 0, 5), 5);
        Check.row("40 down", row(x, 0, 6), 2, 1, 2, 3, 4, 4);
        Check.due("40 none", x.shift(0, 6, 1, 4, 0), 0);
        Check.due("40 all", x.shift(1, 0, 0, 2, 4), 4);
        Check.row("40 all", row(x, 0, 6), 2, 1, 0, 3, 4, 5);
        for (int sort = 1; sort <= 4; sort++) {
            x.tape(2, sort, 3);
            x.tape(3, sort, 3);
            x.item(2, 0, 1);
            Check.due("40 sort " + sort, x.shift(2, 0, 3, 2, 1), 1);
            Check.row("40 sort " + sort, row(x, 3, 3), 0, 0, 1);
        }
    }

    private static void shiftRefused() {
        TradedDesigns x = oneToSix();
        x.tape(2, 1, 6);
        Check.due("40 no tape", x.shift(6, 0, 0, 0, 1), -1);
        Check.due("40 no tape", x.shift(0, 0, 6, 0, 1), -1);
        Check.due("40 no tape", x.shift(-1, 0, 0, 0, 1), -1);
        Check.due("40 no tape", x.shift(5, 0, -1, 0, 1), -1);
        Check.due("40 nothing", x.shift(5, -1, 0, 0, 1), -11);
        Check.due("40 nothing", x.shift(2, 0, 5, 0, -1), -11);
        Check.due("40 sorts", x.shift(0, 0, 2, 0, -1), -12);
        Check.due("40 n", x.shift(0, 0, 1, 0, -1), -13);
        Check.due("40 i", x.shift(0, -1, 1, 0, 1), -13);
        Check.due("40 j", x.shift(0, 0, 1, -1, 1), -13);
        Check.due("40 i at the end", x.shift(0, 6, 1, 0, 1), -13);
        Check.due("40 j at the end", x.shift(0, 0, 1, 4, 1), -13);
        Check.due("40 beyond the end", x.shift(0, 4, 1, 0, 3), -13);
        Check.due("40 beyond the other's end", x.shift(0, 0, 1, 2, 3), -13);
        Check.due("40 none beyond", x.shift(0, 7, 1, 0, 0), -13);
        Check.due("40 none beyond", x.shift(0, 0, 1, 5, 0), -13);
        Check.due("40 far", x.shift(0, 1, 1, 0, Integer.MAX_VALUE), -13);
        Check.due("40 far", x.shift(0, Integer.MAX_VALUE, 1, 0, 1), -13);
        Check.due("40 far", x.shift(0, 0, 1, Integer.MAX_VALUE, Integer.MAX_VALUE), -13);
        Check.due("40 place", x.shift(0, 0, 1, 0, Integer.MIN_VALUE), -13);
    }
}
