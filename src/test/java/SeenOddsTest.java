/** Promises 25 to 28: what is seen, fits, odds, means. */
public final class SeenOddsTest {
    public static void main(String[] args) {
        see();
        fits();
        fitsEdges();
        fitsOfOtherSizes();
        odds();
        mean();
        Check.end();
    }

    private static void see() {
        TradedDesigns x = new TradedDesigns();
        Check.due("25 the empty set", x.see(0, 999), 1);
        Check.due("25 a pair", x.see(3, -999), 2);
        Check.due("25 a pair", x.see(48, 0), 3);
        Check.due("25 triple", x.see(7, 1000), -1);
        Check.due("25 no such point", x.see(64, 0), -1);
        Check.due("25 below", x.see(-2, 0), -1);
        Check.due("25 far below", x.see(Integer.MIN_VALUE, 0), -1);
        Check.due("25 sum", x.see(3, 1000), -2);
        Check.due("25 sum", x.see(3, -1000), -2);
        Check.due("25 the fourth", x.see(3, -999), 4);
        Check.due("25 full", x.see(3, 0), -4);
        Check.due("25 none ahead of full", x.see(7, 0), -1);
        Check.due("25 bad ahead of full", x.see(3, 1000), -2);
        Check.due("25 none then", x.see(-1, 5000), 0);
        Check.due("25 none then", x.counted(0), 0);
        Check.due("25 anew", x.see(1, 1), 1);
        x.see(-1, 0);
        x.size(6, 3, 1);
        Check.due("25 more than t", x.see(3, 0), -1);
        Check.due("25 point", x.see(32, 0), 1);
    }

    private static void fit(String what, TradedDesigns x, int block, int many, int least) {
        Check.due("26 " + what + ", how many", x.fits(block, 0), many);
        Check.due("26 " + what + ", the least", x.fits(block, 1), least);
    }

    private static void fits() {
        TradedDesigns x = new TradedDesigns();
        fit("nothing seen", x, 0, 19, 1);
        fit("nothing seen", x, 19, 19, 1);
        x.count(0, 50);
        fit("nothing seen, a count beyond 9", x, 0, 19, 1);
        x.count(0, 2);
        x.count(1, 3);
        x.see(1, 10);
        fit("012 in 0: 7 and 3", x, 0, 1, 17);
        fit("013 in 0: 2 and 8", x, 1, 1, 18);
        fit("023 in 0: 2, 3 and 5", x, 2, 1, 15);
        fit("345 isn't in 0", x, 19, 0, 0);
        x.see(3, 10);
        fit("012 in both", x, 0, 1, 17);
        fit("023 isn't in 01", x, 2, 0, 0);
        x.see(0, 10);
        fit("012 in all three", x, 0, 1, 17);
        x.see(4, 3);
        fit("012 isn't 3", x, 0, 0, 0);
        fit("none at all", x, 1, 0, 0);
        x.see(-1, 0);
        x.see(32, 0);
        fit("what does not hang on it holds", x, 0, 19, 1);
        x.see(1, 5);
        fit("and what hangs on it", x, 0, 1, 12);
        fit("345: what does not hang on it holds", x, 19, 1, 10);
        x.count(19, 4);
        fit("345 as it were 0", x, 19, 1, 10);
        fit("012: what does not hang on it does not hold", x, 0, 0, 0);
        Check.due("26 none", x.fits(20, 0), -1);
        Check.due("26 none", x.fits(-1, 0), -1);
        Check.due("26 none", x.fits(0, 2), -1);
        Check.due("26 none", x.fits(0, -1), -1);
    }

    private static void fitsEdges() {
        TradedDesigns x = new TradedDesigns();
        x.see(7 & 3, 9);
        fit("9 is one", x, 0, 1, 19);
        x.see(-1, 0);
        x.see(3, 10);
        fit("10 is none", x, 0, 0, 0);
        x.see(-1, 0);
        x.see(3, -9);
        fit("-9 is one", x, 0, 1, 1);
        x.see(-1, 0);
        x.see(3, -10);
        fit("-10 is none", x, 0, 0, 0);
        x.see(-1, 0);
        x.count(0, 99);
        x.see(3, 0);
        fit("what it is does not matter", x, 0, 1, 10);
        x.see(3, 1);
        fit("two that do not go together", x, 0, 0, 0);
        x.see(-1, 0);
        x.see(3, 1);
        x.see(3, 0);
        fit("two that do not go together", x, 0, 0, 0);
    }

    private static void fitsOfOtherSizes() {
        TradedDesigns x = new TradedDesigns();
        x.see(32, 0);
        x.size(5, 3, 2);
        fit("a point that is no more", x, 0, 0, 0);
        x.size(6, 2, 1);
        fit("a point that is there again", x, 0, 19, 1);
        x.size(6, 3, 2);
        x.see(-1, 0);
        x.see(3, 0);
        x.size(6, 3, 1);
        fit("more than t", x, 0, 0, 0);
        fit("more than t", x, 19, 0, 0);
        x.size(6, 3, 2);
        fit("not more than t", x, 19, 19, 1);
        fit("not more than t", x, 0, 1, 10);
        x.exchange(0, 5);
        fit("seen stays as it is", x, 0, 1, 10);
    }

    private static void fraction(String what, long above, long below, long wantAbove, long wantBelow) {
        Check.due(what + ", above", above, wantAbove);
        Check.due(what + ", below", below, wantBelow);
    }

    private static void odds() {
        TradedDesigns x = new TradedDesigns();
        fraction("27 empty design", x.odds(0, 0), x.odds(0, 1), 0, 1);
        fraction("27 empty design", x.odds(7, 0), x.odds(7, 1), 0, 1);
        x.put(0, 1);
        x.put(1, 1);
        x.put(2, 1);
        x.put(19, 1);
        fraction("27 4 of 20", x.odds(0, 0), x.odds(0, 1), 1, 5);
        fraction("27 3 of 10", x.odds(1, 0), x.odds(1, 1), 3, 10);
        fraction("27 2 of 10", x.odds(2, 0), x.odds(2, 1), 1, 5);
        fraction("27 2 of 4", x.odds(3, 0), x.odds(3, 1), 1, 2);
        fraction("27 1 of 4", x.odds(6, 0), x.odds(6, 1), 1, 4);
        fraction("27 1 of 1", x.odds(7, 0), x.odds(7, 1), 1, 1);
        fraction("27 0 of 1", x.odds(14, 0), x.odds(14, 1), 0, 1);
        Check.due("27 four points", x.odds(15, 0), Long.MIN_VALUE);
        Check.due("27 no such point", x.odds(64, 1), Long.MIN_VALUE);
        Check.due("27 below", x.odds(-1, 1), Long.MIN_VALUE);
        Check.due("27 part", x.odds(0, 2), Long.MIN_VALUE);
        Check.due("27 part", x.odds(0, -1), Long.MIN_VALUE);
        x.size(8, 2, 1);
        for (int block = 0; block < 28; block++) {
            x.put(block, 1);
        }
        fraction("27 all", x.odds(128, 0), x.odds(128, 1), 1, 1);
        x.put(27, 0);
        fraction("27 27 of 28", x.odds(0, 0), x.odds(0, 1), 27, 28);
        fraction("27 6 of 7", x.odds(128, 0), x.odds(128, 1), 6, 7);
        Check.due("27 triple", x.odds(7, 0), Long.MIN_VALUE);
    }

    private static void mean() {
        TradedDesigns x = new TradedDesigns();
        Check.due("28 none", x.mean(0), Long.MIN_VALUE);
        Check.due("28 none", x.mean(1), Long.MIN_VALUE);
        x.count(0, -5);
        fraction("28 volume 0", x.mean(0), x.mean(1), 0, 1);
        x.count(1, 7);
        fraction("28 7 by 2", x.mean(0), x.mean(1), 7, 2);
        x.count(2, 3);
        fraction("28 10 by 3", x.mean(0), x.mean(1), 10, 3);
        x.count(3, -1);
        fraction("28 10 by 4", x.mean(0), x.mean(1), 5, 2);
        x.count(4, 5);
        fraction("28 15 by 5", x.mean(0), x.mean(1), 3, 1);
        Check.due("28 part", x.mean(2), Long.MIN_VALUE);
        Check.due("28 part", x.mean(-1), Long.MIN_VALUE);
        x.size(8, 3, 2);
        for (int block = 0; block < 56; block++) {
            x.count(block, 99);
        }
        fraction("28 all 99", x.mean(0), x.mean(1), 99, 1);
        x.count(55, 98);
        fraction("28 one less", x.mean(0), x.mean(1), 5543, 56);
    }
}
