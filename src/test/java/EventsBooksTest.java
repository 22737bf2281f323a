/** Promises 29 to 32: events and books. */
public final class EventsBooksTest {
    public static void main(String[] args) {
        event();
        eventFull();
        after();
        afterSwap();
        afterWhatCannotBe();
        afterOtherSizes();
        book();
        looked();
        Check.end();
    }

    private static void event() {
        TradedDesigns x = new TradedDesigns();
        Check.due("29 twist", x.event(0, 123456), 1);
        Check.due("29 signs", x.event(1, 0), 2);
        Check.due("29 swap", x.event(2, 0), 3);
        Check.due("29 block", x.event(3, 19), 4);
        Check.due("29 count", x.event(4, 0), 5);
        Check.due("29 what", x.event(5, 0), -1);
        Check.due("29 what", x.event(-2, 0), -1);
        Check.due("29 what", x.event(Integer.MIN_VALUE, 0), -1);
        Check.due("29 no block", x.event(3, 20), -1);
        Check.due("29 no block", x.event(4, 20), -1);
        Check.due("29 no block", x.event(3, -1), -1);
        Check.due("29 no block", x.event(4, -1), -1);
        Check.due("29 no twist", x.event(0, 123455), -2);
        Check.due("29 no twist", x.event(0, 12345), -2);
        Check.due("29 no twist", x.event(0, 0), -2);
        Check.due("29 n", x.event(1, 1), -2);
        Check.due("29 n", x.event(1, -1), -2);
        Check.due("29 n", x.event(2, 1), -2);
        x.size(5, 3, 1);
        Check.due("29 as they are now", x.event(0, 123456), -2);
        Check.due("29 as they are now", x.event(3, 10), -1);
        Check.due("29 as they are now", x.event(0, 12345), 6);
        Check.due("29 as they are now", x.event(4, 9), 7);
        Check.due("29 none then", x.event(-1, 77), 0);
        Check.due("29 none then", x.counted(1), 0);
    }

    private static void eventFull() {
        TradedDesigns x = new TradedDesigns();
        for (int i = 1; i <= 8; i++) {
            Check.due("29 rows", x.event(4, 0), i);
        }
        Check.due("29 full", x.event(4, 0), -4);
        Check.due("29 none ahead of full", x.event(4, 20), -1);
        Check.due("29 bad ahead of full", x.event(1, 1), -2);
        Check.due("30 eight times 1 more", x.after(0), 8);
        Check.due("29 none then", x.event(-1, 0), 0);
        Check.due("29 anew", x.event(1, 0), 1);
    }

    private static void after(String what, TradedDesigns x, int volume, int blocks, int index) {
        Check.due("30 " + what + ", volume", x.after(0), volume);
        Check.due("30 " + what + ", blocks", x.after(1), blocks);
        Check.due("30 " + what + ", index", x.after(2), index);
        Check.due("30 " + what, x.after(3), -1);
    }

    private static void after() {
        TradedDesigns x = new TradedDesigns();
        after("no events", x, 0, 0, 0);
        Check.due("30 none", x.after(-1), -1);
        x.put(0, 1);
        x.count(0, 5);
        x.count(1, -8);
        after("as it is", x, 5, 1, -5);
        x.event(1, 0);
        after("signs", x, 8, 1, -5);
        x.event(4, 0);
        after("-5 and 1", x, 8, 1, -5);
        x.event(4, 1);
        after("8 and 1", x, 9, 1, -5);
        x.event(1, 0);
        after("signs again", x, 4, 1, -5);
        x.event(0, 123456);
        after("a twist", x, 8, 1, -5);
        x.event(3, 0);
        after("the block goes", x, 8, 0, 0);
        x.event(3, 4);
        after("another comes", x, 8, 1, -5);
        x.event(3, 4);
        after("and goes", x, 8, 0, 0);
    }

    private static void afterSwap() {
        TradedDesigns x = new TradedDesigns();
        x.size(4, 2, 1);
        x.put(1, 1);
        x.event(2, 0);
        after("it may not be", x, 0, 1, -5);
        x.event(-1, 0);
        x.event(3, 4);
        x.event(0, 1234);
        x.event(2, 0);
        after("by the row it may not be: signs", x, 2, 2, 1);
        x.event(1, 0);
        x.event(2, 0);
        after("by the turned row", x, 2, 2, 1);
        // 02 13 goes, 12 03 comes; then 02 comes, too
        x.event(3, 1);
        after("02 comes", x, 2, 3, -5);
        x.event(2, 0);
        after("it may not be now", x, 2, 3, -5);
        x.event(-1, 0);
        x.event(3, 4);
        x.event(0, 1234);
        x.event(1, 0);
        x.event(3, 1);
        x.event(3, 1);
        x.event(2, 0);
        x.event(3, 2);
        after("12 came by the swap and goes", x, 2, 1, -5);
    }

    private static void afterWhatCannotBe() {
        TradedDesigns x = new TradedDesigns();
        x.count(5, 99);
        x.event(0, 123456);
        after("a twist beyond", x, 99, 0, 0);
        x.event(4, 5);
        after("1 more beyond", x, 99, 0, 0);
        x.event(1, 0);
        x.event(0, 123456);
        after("a twist then", x, 3, 0, 0);
        x.event(4, 5);
        x.event(1, 0);
        after("and 1 more", x, 97 + 4, 0, 0);
        x.event(4, 5);
        x.event(4, 5);
        after("up to 99", x, 99 + 4, 0, 0);
        x.event(-1, 0);
        x.event(4, 5);
        x.event(4, 6);
        after("one can be", x, 100, 0, 0);
    }

    private static void afterOtherSizes() {
        TradedDesigns x = new TradedDesigns();
        x.event(0, 123456);
        x.event(3, 19);
        x.event(4, 19);
        x.event(3, 5);
        x.event(4, 5);
        after("all", x, 6, 2, -5);
        x.size(4, 2, 1);
        after("what isn't there", x, 1, 1, -5);
        x.event(0, 1234);
        x.size(6, 3, 2);
        after("a twist of other sizes", x, 6, 2, -5);
        x.exchange(5, 0);
        after("events stay", x, 6, 2, -5);
    }

    private static void book() {
        TradedDesigns x = new TradedDesigns();
        Check.due("31 book", x.book(0, 99), 1);
        Check.due("31 book", x.book(19, -99), 2);
        Check.due("31 none", x.book(20, 100), -1);
        Check.due("31 none", x.book(-2, 0), -1);
        Check.due("31 bad", x.book(0, 100), -2);
        Check.due("31 bad", x.book(0, -100), -2);
        for (int i = 3; i <= 8; i++) {
            Check.due("31 rows", x.book(0, 99), i);
        }
        Check.due("31 full", x.book(0, 0), -4);
        Check.due("31 none ahead of full", x.book(20, 0), -1);
        Check.due("31 bad ahead of full", x.book(0, 100), -2);
        Check.due("31 empty", x.book(-1, 1000), 0);
        Check.due("31 empty", x.counted(2), 0);
        Check.due("31 anew", x.book(5, 5), 1);
        x.size(4, 3, 1);
        Check.due("31 as they are now", x.book(4, 0), -1);
        Check.due("31 as they are now", x.book(3, 0), 2);
    }

    private static void looked() {
        TradedDesigns x = new TradedDesigns();
        Check.due("32 empty", x.looked(), -5);
        x.book(0, 0);
        x.book(19, 0);
        x.book(5, -2);
        Check.due("32 third", x.looked(), 2);
        x.count(5, -2);
        Check.due("32 none", x.looked(), -5);
        x.count(19, 1);
        Check.due("32 second", x.looked(), 1);
        x.count(0, 1);
        Check.due("32 first", x.looked(), 0);
        x.size(6, 3, 2);
        Check.due("32 third again", x.looked(), 2);
        x.size(5, 3, 2);
        Check.due("32 isn't there", x.looked(), 1);
        x.size(6, 3, 2);
        x.count(5, -2);
        Check.due("32 there again", x.looked(), -5);
    }
}
