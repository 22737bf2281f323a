/** Promises 22 to 24: open twists and partings. */
public final class TwistsPartingsTest {
    public static void main(String[] args) {
        openNone();
        openFirst();
        openOrder();
        openOfTriples();
        parted();
        partedRefused();
        part();
        partIsAsk();
        Check.end();
    }

    private static TradedDesigns design(int v, int k, int t, String... blocks) {
        TradedDesigns x = new TradedDesigns();
        x.size(v, k, t);
        for (String block : blocks) {
            int set = 0;
            for (char point : block.toCharArray()) {
                set |= 1 << point - '0';
            }
            x.put(x.number(set), 1);
        }
        return x;
    }

    private static void open(String what, TradedDesigns x, int many, int first, int times) {
        Check.due("22 " + what + ", how many", x.open(0), many);
        Check.due("22 " + what + ", how many again", x.open(0), many);
        Check.due("22 " + what + ", first", x.open(1), first);
        Check.due("22 " + what + ", its N", x.open(2), times);
    }

    private static void openNone() {
        open("empty design", new TradedDesigns(), 0, -5, -5);
        open("too few points", design(4, 3, 2, "012", "013"), 0, -5, -5);
        open("only half is there", design(4, 2, 1, "01"), 0, -5, -5);
        open("all is there", design(4, 2, 1, "01", "02", "03", "12", "13", "23"), 0, -5, -5);
        TradedDesigns x = new TradedDesigns();
        Check.due("22 none", x.open(3), -1);
        Check.due("22 none", x.open(-1), -1);
        Check.due("22 none", x.open(Integer.MAX_VALUE), -1);
    }

    private static void openFirst() {
        // pairs 0 3 and 1 4 (1425): + 01 - 13 - 04 + 34; pairs 0 4 and 1 3 (1524): + 01 - 14 - 03 + 34
        open("both with N -1", design(5, 2, 1, "01", "34"), 2, 1425, 0);
        TradedDesigns x = design(5, 2, 1, "01", "34");
        x.count(0, 50);
        open("the row does not matter", x, 2, 1425, 0);
        Check.due("22 the row stays", x.of(0, 0), 150);
        // pairs 0 1 and 2 3 (1234): + 02 - 12 - 03 + 13
        open("N 1", design(4, 2, 1, "12", "03"), 2, 1234, 2);
        open("N -1", design(4, 2, 1, "02", "13"), 2, 1234, 0);
        open("those that come are there", design(4, 2, 1, "02", "13", "12", "23"), 0, -5, -5);
    }

    private static void openOrder() {
        // 01 and 23: 1324 (pairs 0 2, 1 3: + 01 - 12 - 03 + 23) and 1423 (+ 01 - 13 - 02 + 23)
        open("01 23", design(4, 2, 1, "01", "23"), 2, 1324, 0);
        // 03 and 12: 1234 by 1, 1324 by 1
        open("03 12", design(4, 2, 1, "03", "12"), 2, 1234, 2);
        open("01 23 02", design(4, 2, 1, "01", "23", "02"), 1, 1324, 0);
        open("45 67", design(8, 2, 1, "45", "67"), 2, 5768, 0);
    }

    private static void openOfTriples() {
        // 024 - 124 - 034 + 134: pairs 0 1 and 2 3, point 4 behind
        open("a point behind", design(5, 3, 1, "024", "134"), 2, 12345, 0);
        open("the least point behind", design(5, 3, 1, "013", "024"), 2, 23451, 0);
        open("N 1", design(5, 3, 1, "124", "034"), 2, 12345, 2);
        // 024 - 124 - 034 + 134 - 025 + 125 + 035 - 135
        open("three pairs, N -1", design(6, 3, 2, "024", "134", "125", "035"), 1, 123456, 0);
        open("three pairs, N 1", design(6, 3, 2, "124", "034", "025", "135"), 1, 123456, 2);
        open("one comes that is there", design(6, 3, 2, "124", "034", "025", "135", "024"), 0, -5, -5);
        open("one goes that isn't there", design(6, 3, 2, "124", "034", "025"), 0, -5, -5);
        open("v 8", design(8, 3, 2, "246", "356", "347", "257"), 1, 345678, 0);
    }

    private static void parted() {
        int[][] ways = {{4, 2, 1, 3, 1}, {5, 2, 1, 2, 6}, {6, 2, 1, 5, 6}, {5, 3, 1, 2, 6}, {6, 3, 2, 2, 6}};
        int[][] sizes = {{4, 2, 1}, {5, 2, 1}, {6, 2, 1}, {4, 3, 1}, {5, 3, 1}, {4, 3, 2}, {5, 3, 2}, {6, 3, 2}};
        for (int[] s : sizes) {
            TradedDesigns x = new TradedDesigns();
            x.size(s[0], s[1], s[2]);
            for (int m = 2; m <= 6; m++) {
                int want = 0;
                for (int[] w : ways) {
                    if (w[0] == s[0] && w[1] == s[1] && w[2] == s[2] && w[3] == m) {
                        want = w[4];
                    }
                }
                Check.due("23 parted " + x.told(9) + " into " + m, x.parted(m), want);
                Check.due("24 part of block 0", x.part(m, 0), want == 0 ? -5 : 0);
            }
        }
        TradedDesigns x = new TradedDesigns();
        x.put(3, 1);
        x.count(3, 1);
        Check.due("23 the design does not matter", x.parted(2), 6);
    }

    private static void partedRefused() {
        TradedDesigns x = new TradedDesigns();
        int[] bad = {1, 7, 0, -1, -2, Integer.MAX_VALUE, Integer.MIN_VALUE};
        for (int m : bad) {
            Check.due("23 bad " + m, x.parted(m), -2);
            Check.due("24 bad " + m, x.part(m, 0), -2);
            Check.due("24 none ahead of bad " + m, x.part(m, 20), -1);
        }
        Check.due("24 none", x.part(2, -1), -1);
        int[][] sizes = {{7, 2, 1}, {8, 2, 1}, {6, 3, 1}, {7, 3, 1}, {8, 3, 1}, {7, 3, 2}, {8, 3, 2}};
        for (int[] s : sizes) {
            x.size(s[0], s[1], s[2]);
            Check.due("23 isn't looked for", x.parted(2), -3);
            Check.due("24 isn't looked for", x.part(2, 0), -3);
            Check.due("24 none ahead of state", x.part(2, 56), -1);
            Check.due("24 bad ahead of state", x.part(7, 0), -2);
        }
    }

    private static long[] parts(TradedDesigns x, int m) {
        long[] parts = new long[x.told(0)];
        for (int block = 0; block < parts.length; block++) {
            parts[block] = x.part(m, block);
        }
        return parts;
    }

    private static void part() {
        TradedDesigns x = new TradedDesigns();
        Check.row("24 triples of 6", parts(x, 2), 0, 0, 1, 1, 1, 0, 1, 1, 0, 0, 1, 1, 0, 0, 1, 0, 0, 0, 1, 1);
        x.size(4, 2, 1);
        Check.row("24 pairs of 4", parts(x, 3), 0, 1, 2, 2, 1, 0);
        x.size(6, 2, 1);
        // 01 02 12 03 13 23 04 14 24 34 05 15 25 35 45
        Check.row("24 pairs of 6", parts(x, 5), 0, 1, 2, 2, 3, 4, 3, 4, 0, 1, 4, 1, 3, 0, 2);
        x.size(5, 2, 1);
        Check.row("24 pairs of 5", parts(x, 2), 0, 0, 1, 1, 0, 1, 1, 1, 0, 0);
    }

    private static void partIsAsk() {
        TradedDesigns x = new TradedDesigns();
        x.put(5, 1);
        x.see(1, 1);
        Look before = new Look(x);
        x.part(2, 0);
        x.open(0);
        x.parted(4);
        Check.text("22 to 24 are asked", before.changeTo(new Look(x)), "");
        Check.due("23 in turn", x.parted(2), 6);
        Check.due("23 in turn", x.parted(4), 0);
        Check.due("24 in turn", x.part(2, 2), 1);
        Check.due("24 in turn", x.part(4, 2), -5);
        x.size(6, 2, 1);
        Check.due("24 other sizes", x.part(2, 2), -5);
        Check.due("24 other sizes", x.part(5, 2), 2);
    }
}
