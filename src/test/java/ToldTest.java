/** Promises 14 to 21: what is told. */
public final class ToldTest {
    public static void main(String[] args) {
        told();
        index();
        blocks();
        of();
        sum();
        amiss();
        cover();
        written();
        Check.end();
    }

    private static long[] all(TradedDesigns x) {
        long[] all = new long[10];
        for (int what = 0; what < 10; what++) {
            all[what] = x.told(what);
        }
        return all;
    }

    private static void told() {
        TradedDesigns x = new TradedDesigns();
        Check.row("14 told", all(x), 20, 0, 0, 1, 1, 0, 0, 0, 4, 632);
        x.twist(123456, 2);
        x.put(0, 1);
        x.put(7, 1);
        x.keep();
        x.put(8, 1);
        Check.row("14 told", all(x), 20, 8, 63, 0, 1, 3, -5, 2, 4, 632);
        x.clear();
        x.count(0, 1);
        x.count(4, -1);
        Check.row("14 told", all(x), 20, 1, 7 | 19, 1, 0, 3, -5, 2, 4, 632);
        x.count(4, -2);
        Check.due("14 not plain below", x.told(3), 0);
        x.count(4, 0);
        Check.due("14 plain", x.told(3), 1);
        Check.due("14 foundation", x.told(2), 7);
        x.count(0, 2);
        Check.due("14 not plain above", x.told(3), 0);
        x.count(0, 99);
        x.count(1, 99);
        Check.due("14 volume", x.told(1), 198);
        x.size(8, 3, 1);
        Check.row("14 told", all(x), 56, 0, 0, 1, 1, 0, 0, 0, 2, 831);
        x.size(7, 2, 1);
        Check.row("14 told", all(x), 21, 0, 0, 1, 1, 0, 0, 0, 2, 721);
        Check.due("14 none", x.told(10), -1);
        Check.due("14 none", x.told(-1), -1);
        Check.due("14 none", x.told(Integer.MAX_VALUE), -1);
    }

    private static void index() {
        TradedDesigns x = new TradedDesigns();
        int[] design = {0, 1, 5, 8, 9, 12, 13, 15, 16, 17};
        for (int block : design) {
            Check.due("14 no index yet", x.told(6), block == 0 ? 0 : -5);
            x.put(block, 1);
        }
        Check.due("14 index 2", x.told(6), 2);
        for (int block = 0; block < 20; block++) {
            x.put(block, 1);
        }
        Check.due("14 index 4", x.told(6), 4);
        x.size(7, 3, 2);
        int[] plane = {7, 25, 97, 42, 82, 52, 76};
        for (int set : plane) {
            x.put(x.number(set), 1);
        }
        Check.due("14 a plane's index", x.told(6), 1);
        x.size(4, 2, 1);
        x.put(0, 1);
        Check.due("14 no index", x.told(6), -5);
        x.put(5, 1);
        Check.due("14 index 1", x.told(6), 1);
        x.size(6, 3, 1);
        x.put(0, 1);
        x.put(19, 1);
        Check.due("14 index of points", x.told(6), 1);
        // the last point alone lies otherwise
        x.size(4, 2, 1);
        x.put(0, 1);
        x.put(1, 1);
        x.put(2, 1);
        Check.due("14 one point less", x.told(6), -5);
    }

    private static void blocks() {
        TradedDesigns x = new TradedDesigns();
        long[] bits = new long[20];
        for (int block = 0; block < 20; block++) {
            bits[block] = x.block(block);
            Check.due("16 number", x.number((int) bits[block]), block);
        }
        Check.row("15 block", bits, 7, 11, 13, 14, 19, 21, 22, 25, 26, 28, 35, 37, 38, 41, 42, 44, 49, 50, 52, 56);
        Check.due("15 none", x.block(20), -1);
        Check.due("15 none", x.block(-1), -1);
        Check.due("15 none", x.block(Integer.MIN_VALUE), -1);
        Check.due("16 empty set", x.number(0), -5);
        Check.due("16 two points", x.number(3), -5);
        Check.due("16 four points", x.number(15), -5);
        Check.due("16 all points", x.number(63), -5);
        Check.due("16 a point too many", x.number(64), -1);
        Check.due("16 a point too many", x.number(67), -1);
        Check.due("16 below", x.number(-1), -1);
        Check.due("16 far", x.number(Integer.MIN_VALUE | 7), -1);
        x.size(8, 2, 1);
        Check.due("15 last", x.block(27), 192);
        Check.due("15 none", x.block(28), -1);
        Check.due("16 last", x.number(192), 27);
        Check.due("16 triple", x.number(7), -5);
        Check.due("16 none", x.number(256), -1);
        x.size(8, 3, 2);
        Check.due("15 last", x.block(55), 224);
        Check.due("15 none", x.block(56), -1);
        x.size(4, 3, 1);
        Check.due("15 last", x.block(3), 14);
        Check.due("15 none", x.block(4), -1);
        Check.due("16 no point 4", x.number(19), -1);
    }

    private static void of() {
        TradedDesigns x = new TradedDesigns();
        x.count(3, -99);
        x.put(3, 1);
        x.put(4, 1);
        x.keep();
        x.put(4, 0);
        Check.due("17 count", x.of(3, 0), 1);
        Check.due("17 in", x.of(3, 1), 1);
        Check.due("17 kept", x.of(3, 2), 1);
        Check.due("17 count", x.of(4, 0), 100);
        Check.due("17 not in", x.of(4, 1), 0);
        Check.due("17 kept", x.of(4, 2), 1);
        Check.due("17 not kept", x.of(5, 2), 0);
        Check.due("17 none", x.of(20, 0), -1);
        Check.due("17 none", x.of(-1, 0), -1);
        Check.due("17 none", x.of(0, 3), -1);
        Check.due("17 none", x.of(0, -1), -1);
    }

    private static void sum() {
        TradedDesigns x = new TradedDesigns();
        x.count(0, 10);
        x.count(1, -3);
        x.count(19, 99);
        Check.due("18 all", x.sum(0), 10106);
        Check.due("18 point 0", x.sum(1), 10007);
        Check.due("18 point 2", x.sum(4), 10010);
        Check.due("18 point 5", x.sum(32), 10099);
        Check.due("18 pair", x.sum(3), 10007);
        Check.due("18 pair", x.sum(9), 9997);
        Check.due("18 block", x.sum(7), 10010);
        Check.due("18 block", x.sum(56), 10099);
        Check.due("18 block", x.sum(14), 10000);
        int[] none = {15, 64, 65, -1, 63, Integer.MIN_VALUE, Integer.MAX_VALUE};
        for (int set : none) {
            Check.due("18 none " + set, x.sum(set), -1);
            Check.due("20 none " + set, x.cover(set), -1);
        }
        x.size(8, 3, 2);
        for (int block = 0; block < 56; block++) {
            x.count(block, -99);
        }
        Check.due("18 least", x.sum(0), 10000 - 56 * 99);
        x.size(5, 2, 1);
        Check.due("18 pair", x.sum(24), 10000);
        Check.due("18 more than k", x.sum(7), -1);
        Check.due("18 no point 5", x.sum(32), -1);
    }

    private static void amiss() {
        TradedDesigns x = new TradedDesigns();
        Check.due("19 all 0", x.amiss(), -5);
        x.count(19, 1);
        Check.due("19 the empty set", x.amiss(), 0);
        x.count(18, -1);
        Check.due("19 the least point", x.amiss(), 4);
        Check.due("19 that sum", x.sum(4), 9999);
        x.clear();
        // 024 - 124 - 034 + 134: each point's sum is 0, that of points 0 and 2 isn't
        x.count(x.number(1 | 4 | 16), 1);
        x.count(x.number(2 | 4 | 16), -1);
        x.count(x.number(1 | 8 | 16), -1);
        x.count(x.number(2 | 8 | 16), 1);
        Check.due("19 the least pair", x.amiss(), 5);
        Check.due("19 no trade", x.told(4), 0);
        x.size(6, 3, 1);
        x.twist(12345, 1);
        Check.due("19 only points are looked at", x.amiss(), -5);
        Check.due("19 a trade of points", x.told(4), 1);
        x.count(0, 1);
        x.count(x.number(56), -1);
        Check.due("19 point 0", x.amiss(), 1);
    }

    private static void cover() {
        TradedDesigns x = new TradedDesigns();
        x.put(0, 1);
        x.put(1, 1);
        x.put(19, 1);
        x.count(5, 9);
        Check.due("20 all", x.cover(0), 3);
        Check.due("20 point", x.cover(1), 2);
        Check.due("20 point", x.cover(4), 1);
        Check.due("20 point", x.cover(8), 2);
        Check.due("20 pair", x.cover(3), 2);
        Check.due("20 pair", x.cover(12), 0);
        Check.due("20 block", x.cover(56), 1);
        Check.due("20 block", x.cover(14), 0);
        x.size(8, 2, 1);
        x.put(27, 1);
        Check.due("20 last", x.cover(192), 1);
        Check.due("20 triple", x.cover(224), -1);
    }

    private static void written() {
        TradedDesigns x = new TradedDesigns();
        Check.text("21 all 0", Check.written(x), "0");
        Check.due("21 below", x.written(-1), -1);
        Check.due("21 below", x.written(Integer.MIN_VALUE), -1);
        Check.due("21 behind", x.written(1), -5);
        Check.due("21 far behind", x.written(Integer.MAX_VALUE), -5);
        x.count(0, 1);
        Check.text("21 one", Check.written(x), "+012");
        Check.due("21 behind", x.written(4), -5);
        x.count(2, -1);
        x.count(5, 2);
        x.count(6, -9);
        x.count(7, 10);
        x.count(8, -99);
        x.count(9, 11);
        x.count(19, 19);
        Check.text("21 many", Check.written(x), "+012-023+2*024-9*124+10*034-99*134+11*234+19*345");
        Check.due("21 the empty design does not matter", x.told(5), 0);
        x.size(8, 2, 1);
        x.count(27, -1);
        Check.text("21 pair", Check.written(x), "-67");
        x.count(27, 70);
        Check.text("21 pair", Check.written(x), "+70*67");
    }
}
