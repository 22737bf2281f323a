/** Promises 1 to 11: rows and designs. */
public final class RowsDesignsTest {
    public static void main(String[] args) {
        newObject();
        size();
        sizeKeepsWhatIsTold();
        count();
        twist();
        twistOfOtherSizes();
        turnAndClear();
        put();
        swap();
        swapNotMay();
        keepAndDiffer();
        exchange();
        mostBlocks();
        Check.end();
    }

    private static long[] counts(TradedDesigns x) {
        long[] counts = new long[x.told(0)];
        for (int block = 0; block < counts.length; block++) {
            counts[block] = x.of(block, 0) - 100;
        }
        return counts;
    }

    private static long design(TradedDesigns x, int what) {
        long blocks = 0;
        for (int block = 0; block < x.told(0); block++) {
            blocks |= (long) x.of(block, what) << block;
        }
        return blocks;
    }

    private static void newObject() {
        TradedDesigns x = new TradedDesigns();
        Check.due("1 sizes", x.told(9), 632);
        Check.due("1 blocks", x.told(0), 20);
        Check.row("1 counts", counts(x), new long[20]);
        Check.due("1 design", design(x, 1), 0);
        Check.due("1 kept", design(x, 2), 0);
        for (int what = 0; what <= 3; what++) {
            Check.due("1 counted(" + what + ")", x.counted(what), 0);
        }
        Check.due("1 no image", x.undo(), -3);
        Check.due("1 tape 5", x.peek(5, 0), Long.MIN_VALUE);
    }

    private static void size() {
        int was = 632;
        int[] many = {6, 0, 10, 0, 15, 0, 21, 0, 28, 0};
        for (int v = 4; v <= 8; v++) {
            for (int k = 2; k <= 3; k++) {
                for (int t = 1; t < k; t++) {
                    TradedDesigns x = new TradedDesigns();
                    Check.due("2 size", x.size(v, k, t), was);
                    Check.due("2 sizes then", x.told(9), 100 * v + 10 * k + t);
                    int triples = v * (v - 1) * (v - 2) / 6;
                    Check.due("2 blocks", x.told(0), k == 2 ? many[2 * (v - 4)] : triples);
                    Check.due("2 size again", x.size(6, 3, 2), 100 * v + 10 * k + t);
                }
            }
        }
        int[][] bad = {{3, 2, 1}, {9, 2, 1}, {6, 1, 1}, {6, 4, 1}, {6, 4, 3}, {6, 2, 0}, {6, 2, 2}, {6, 3, 0}, {6, 3, 3},
            {6, 3, -1}, {-6, 3, 2}, {6, -3, 2}, {Integer.MIN_VALUE, 3, 2}, {6, Integer.MAX_VALUE, 2}};
        TradedDesigns x = new TradedDesigns();
        x.count(3, 7);
        x.put(2, 1);
        for (int[] s : bad) {
            Check.due("2 bad", x.size(s[0], s[1], s[2]), -2);
        }
        Check.due("2 bad", x.size(9, 3, 2), -2);
    }

    private static void sizeKeepsWhatIsTold() {
        TradedDesigns x = new TradedDesigns();
        x.count(3, 7);
        x.put(2, 1);
        x.keep();
        x.see(3, 0);
        x.event(4, 0);
        x.book(1, 1);
        x.feed('a');
        x.tape(0, 0, 2);
        Check.due("2 same sizes", x.size(6, 3, 2), 632);
        Check.row("2 counts are 0", counts(x), new long[20]);
        Check.due("2 design is empty", design(x, 1), 0);
        Check.due("2 kept is empty", design(x, 2), 0);
        Check.due("2 seen stays", x.counted(0), 1);
        Check.due("2 events stay", x.counted(1), 1);
        Check.due("2 book stays", x.counted(2), 1);
        Check.due("2 text stays", x.counted(3), 1);
        Check.due("2 tape stays", x.peek(0, 1), 0);
        x.count(19, 5);
        x.size(4, 2, 1);
        x.size(6, 3, 2);
        Check.due("2 counts beyond are 0, too", x.of(19, 0), 100);
    }

    private static void count() {
        TradedDesigns x = new TradedDesigns();
        Check.due("3 count", x.count(0, 99), 100);
        Check.due("3 count", x.count(0, -99), 199);
        Check.due("3 count", x.count(0, 5), 1);
        Check.due("3 count", x.count(19, -1), 100);
        Check.due("3 of", x.of(0, 0), 105);
        Check.due("3 of", x.of(19, 0), 99);
        Check.due("3 count(20, 0)", x.count(20, 0), -1);
        Check.due("3 count(-1, 100)", x.count(-1, 100), -1);
        Check.due("3 count(0, 100)", x.count(0, 100), -2);
        Check.due("3 count(0, -100)", x.count(0, -100), -2);
        Check.due("3 count far", x.count(Integer.MIN_VALUE, 0), -1);
        Check.due("3 count far", x.count(0, Integer.MIN_VALUE), -2);
    }

    private static void twist() {
        TradedDesigns x = new TradedDesigns();
        Check.due("4 twist", x.twist(123456, 1), 4);
        Check.row("4 counts", counts(x), 0, 0, 0, 0, 0, 1, -1, -1, 1, 0, 0, -1, 1, 1, -1, 0, 0, 0, 0, 0);
        Check.due("4 twist back", x.twist(123456, -1), 0);
        Check.row("4 counts", counts(x), new long[20]);
        Check.due("4 other pairs", x.twist(214365, 2), 8);
        Check.row("4 counts", counts(x), 0, 0, 0, 0, 0, -2, 2, 2, -2, 0, 0, 2, -2, -2, 2, 0, 0, 0, 0, 0);
        x.count(5, 98);
        Check.due("4 beyond above", x.twist(123456, 2), -3);
        Check.due("4 up to 99", x.twist(123456, 1), 98 + 1 + 1 + 1 + 1 + 1);
        Check.due("4 of", x.of(5, 0), 199);
        x.clear();
        x.count(6, -98);
        Check.due("4 beyond below", x.twist(123456, 2), -3);
        Check.due("4 down to -99", x.twist(123456, 1), 4);
        Check.due("4 of", x.of(6, 0), 1);
        int[] bad = {0, -1, 123455, 12345, 1234567, 123457, 123450, 1023456, -123456, 112345, 111111, 223456,
            Integer.MAX_VALUE, Integer.MIN_VALUE};
        for (int number : bad) {
            Check.due("4 bad twist " + number, x.twist(number, 1), -2);
        }
        int[] badTimes = {0, 10, -10, Integer.MAX_VALUE, Integer.MIN_VALUE};
        for (int n : badTimes) {
            Check.due("4 bad n " + n, x.twist(123456, n), -2);
        }
        Check.due("4 bad", x.twist(123457, 99), -2);
        x.clear();
        Check.due("4 n 9", x.twist(654321, 9), 36);
        Check.due("4 n -9", x.twist(654321, -9), 0);
    }

    private static void twistOfOtherSizes() {
        TradedDesigns x = new TradedDesigns();
        x.size(5, 3, 1);
        Check.due("4 a point behind", x.twist(12345, 1), 2);
        Check.text("4 a point behind", Check.written(x), "+024-124-034+134");
        Check.due("4 too long", x.twist(123451, 1), -2);
        x.size(4, 2, 1);
        Check.due("4 pairs", x.twist(4213, 3), 6);
        Check.text("4 pairs", Check.written(x), "-3*01+3*12+3*03-3*23");
        x.size(8, 3, 2);
        Check.due("4 v 8", x.twist(345678, 1), 4);
        Check.text("4 v 8", Check.written(x), "+246-346-256+356-247+347+257-357");
        Check.due("4 digit 9", x.twist(345679, 1), -2);
        x.size(4, 3, 2);
        Check.due("4 too few points", x.twist(123412, 1), -2);
        Check.due("4 too few points", x.twist(1234, 1), -2);
    }

    private static void turnAndClear() {
        TradedDesigns x = new TradedDesigns();
        Check.due("5 turn of 0", x.turn(), 0);
        x.count(0, 5);
        x.count(1, -7);
        x.count(19, -99);
        Check.due("5 turn", x.turn(), 106);
        Check.due("5 of", x.of(0, 0), 95);
        Check.due("5 of", x.of(1, 0), 107);
        Check.due("5 of", x.of(19, 0), 199);
        Check.due("5 turn back", x.turn(), 5);
        x.put(3, 1);
        Check.due("6 clear", x.clear(), 3);
        Check.row("6 counts", counts(x), new long[20]);
        Check.due("6 design stays", design(x, 1), 8);
        Check.due("6 clear again", x.clear(), 0);
    }

    private static void put() {
        TradedDesigns x = new TradedDesigns();
        Check.due("7 put", x.put(19, 1), 0);
        Check.due("7 put again", x.put(19, 1), 1);
        Check.due("7 in it", design(x, 1), 1L << 19);
        Check.due("7 not", x.put(0, 0), 0);
        Check.due("7 not kept", design(x, 2), 0);
        Check.due("7 out", x.put(19, 0), 1);
        Check.due("7 out again", x.put(19, 0), 0);
        Check.due("7 none in", design(x, 1), 0);
        x.put(4, 1);
        Check.due("7 put(20, 2)", x.put(20, 2), -1);
        Check.due("7 put(-1, 1)", x.put(-1, 1), -1);
        Check.due("7 put(0, 2)", x.put(0, 2), -2);
        Check.due("7 put(4, -1)", x.put(4, -1), -2);
        x.size(8, 3, 2);
        Check.due("7 last", x.put(55, 1), 0);
        Check.due("7 last", x.of(55, 1), 1);
        Check.due("7 only last", design(x, 1), 1L << 55);
        Check.due("7 none behind", x.put(56, 1), -1);
    }

    private static void swap() {
        TradedDesigns x = new TradedDesigns();
        int[] minus = {6, 7, 11, 14};
        for (int block : minus) {
            x.put(block, 1);
        }
        x.put(0, 1);
        x.twist(123456, 1);
        Check.due("8 swap", x.swap(), 5);
        Check.due("8 those came", design(x, 1), 1L | 1L << 5 | 1L << 8 | 1L << 12 | 1L << 13);
        Check.due("8 the row stays", x.told(1), 4);
        Check.due("8 not twice", x.swap(), -3);
        x.turn();
        Check.due("8 back", x.swap(), 5);
        Check.due("8 as it was", design(x, 1), 1L | 1L << 6 | 1L << 7 | 1L << 11 | 1L << 14);
    }

    private static void swapNotMay() {
        TradedDesigns x = new TradedDesigns();
        Check.due("8 all 0", x.swap(), -3);
        x.size(4, 2, 1);
        x.put(0, 1);
        x.put(5, 1);
        x.twist(1324, -1);
        Check.text("8 row", Check.written(x), "-01+12+03-23");
        x.put(2, 1);
        Check.due("8 one comes that is there", x.swap(), -3);
        x.put(2, 0);
        x.put(5, 0);
        Check.due("8 one goes that isn't there", x.swap(), -3);
        x.put(5, 1);
        x.count(5, -2);
        Check.due("8 not plain", x.swap(), -3);
        x.count(5, 0);
        Check.due("8 no trade", x.swap(), -3);
        x.count(5, -1);
        x.put(0, 0);
        Check.due("8 block 0 goes that isn't there", x.swap(), -3);
        x.put(0, 1);
        Check.due("8 it may be", x.swap(), 2);
        x.twist(1324, 1);
        x.twist(1234, 1);
        x.clear();
        x.twist(1324, 2);
        Check.due("8 a trade, not plain", x.swap(), -3);
    }

    private static void keepAndDiffer() {
        TradedDesigns x = new TradedDesigns();
        Check.due("9 none", x.keep(), 0);
        x.put(1, 1);
        x.put(2, 1);
        x.put(19, 1);
        Check.due("9 keep", x.keep(), 3);
        Check.due("9 kept", design(x, 2), 6 | 1L << 19);
        Check.due("9 design stays", design(x, 1), 6 | 1L << 19);
        x.put(1, 0);
        x.put(19, 0);
        x.put(7, 1);
        Check.due("9 kept stays", design(x, 2), 6 | 1L << 19);
        x.count(2, 50);
        x.count(12, -50);
        Check.due("10 differ", x.differ(), 1);
        Check.row("10 counts", counts(x), 0, -1, 0, 0, 0, 0, 0, 1, 0, 0, 0, 0, 0, 0, 0, 0, 0, 0, 0, -1);
        Check.due("10 designs stay", design(x, 1), 4 | 1L << 7);
        Check.due("10 kept stays", design(x, 2), 6 | 1L << 19);
        Check.due("9 keep anew", x.keep(), 2);
        Check.due("9 kept anew", design(x, 2), 4 | 1L << 7);
        Check.due("10 differ from itself", x.differ(), 0);
        Check.row("10 counts", counts(x), new long[20]);
    }

    private static void exchange() {
        TradedDesigns x = new TradedDesigns();
        x.size(4, 2, 1);
        for (int block = 0; block < 6; block++) {
            x.count(block, block + 1);
        }
        x.put(0, 1);
        x.put(3, 1);
        x.keep();
        x.put(3, 0);
        x.put(5, 1);
        x.see(1, 8);
        x.event(4, 2);
        x.book(1, 2);
        Check.due("11 one twice", x.exchange(2, 2), -1);
        Check.due("11 no point", x.exchange(0, 4), -1);
        Check.due("11 no point", x.exchange(4, 0), -1);
        Check.due("11 no point", x.exchange(-1, 0), -1);
        Check.due("11 no point", x.exchange(0, -1), -1);
        // blocks: 01 02 12 03 13 23; points 0 and 3 change places: 31 32 12 30 10 20
        Check.due("11 exchange", x.exchange(0, 3), 1);
        Check.row("11 counts", counts(x), 5, 6, 3, 4, 1, 2);
        Check.due("11 design", design(x, 1), 1 << 4 | 1 << 1);
        Check.due("11 kept", design(x, 2), 1 << 4 | 1 << 3);
        Check.due("11 seen stays", x.counted(0), 1);
        Check.due("11 events stay", x.counted(1), 1);
        Check.due("11 the book stays", x.looked(), 0);
        Check.due("11 back", x.exchange(3, 0), 1);
        Check.row("11 counts", counts(x), 1, 2, 3, 4, 5, 6);
        Check.due("11 design", design(x, 1), 1 | 1 << 5);
        Check.due("11 kept", design(x, 2), 1 | 1 << 3);
        Check.due("11 the book holds", x.looked(), -5);
        x.size(8, 3, 2);
        x.count(55, 9);
        x.put(55, 1);
        Check.due("11 far points", x.exchange(7, 1), 1);
        Check.due("11 block 156", x.of(x.number(2 | 32 | 64), 0), 109);
        Check.due("11 block 156", x.of(x.number(2 | 32 | 64), 1), 1);
        Check.due("11 block 567", x.of(55, 0), 100);
        Check.due("11 block 567", x.of(55, 1), 0);
    }

    // With 56 blocks all rows are full: what goes beyond them would show here.
    private static void mostBlocks() {
        TradedDesigns x = new TradedDesigns();
        x.size(8, 3, 2);
        Check.due("4 twist of the last", x.twist(162738, -1), 4);
        Check.text("4 twist of the last", Check.written(x), "-012+125+026-256+017-157-067+567");
        Check.due("5 turn", x.turn(), 4);
        Check.due("14 foundation", x.told(2), 231);
        Check.due("14 plain", x.told(3), 1);
        Check.due("14 trade", x.told(4), 1);
        Check.due("19 none amiss", x.amiss(), -5);
        String[] go = {"125", "026", "017", "567"};
        for (String block : go) {
            x.put(x.number(1 << block.charAt(0) - '0' | 1 << block.charAt(1) - '0' | 1 << block.charAt(2) - '0'), 1);
        }
        Check.due("22 open", x.open(0), 1);
        Check.due("22 open", x.open(1), 162738);
        Check.due("22 open", x.open(2), 2);
        Check.due("20 the last", x.cover(224), 1);
        Check.due("8 swap", x.swap(), 4);
        Check.due("8 the last went", x.of(55, 1), 0);
        Check.due("8 the first came", x.of(0, 1), 1);
        Check.due("9 keep", x.keep(), 4);
        Check.due("11 exchange", x.exchange(0, 7), 1);
        Check.due("11 127 is in it", x.of(x.number(2 | 4 | 128), 1), 1);
        x.put(55, 1);
        x.put(0, 1);
        Check.due("10 differ", x.differ(), 2);
        Check.text("10 differ", Check.written(x), "+012+567");
        Check.due("34 image", x.image(), 6);
        Check.due("35 undo", x.undo(), 6);
        Check.due("6 clear", x.clear(), 2);
    }
}
