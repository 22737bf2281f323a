/** The edges of promises 29 to 32: events and books, here and in the Terms. */
public final class EdgesEventsTest {
    public static void main(String[] args) {
        Edges.run(EdgesEventsTest.class);
    }

    private static void after(Run run, int volume, int blocks, int index) {
        run.asked("after 0", volume).asked("after 1", blocks).asked("after 2", index);
    }

    @Holds(says = "EVENTS told by hand: what happens (0 TWIST n comes once, as by twist()")
    static void twistComes() {
        after(new Run("event 0 123456"), 4, 0, 0);
        after(new Run("event 0 214365", "event 0 123456"), 0, 0, 0);
        after(new Run("count b024 98", "event 0 123456"), 98 + 4, 0, 0);
        after(new Run("count b024 99", "event 0 123456"), 99, 0, 0);
        after(new Run("count b124 -98", "event 0 123456"), 4, 0, 0);
        after(new Run("count b124 -99", "event 0 123456"), 0, 0, 0);
    }

    @Holds(says = "1 COUNTS of all BLOCKS change their signs (n 0)")
    static void signsChange() {
        Run run = new Run("count 0 99", "count 19 -98");
        after(run, 99, 0, 0);
        after(run.does("event 1 0"), 98, 0, 0);
        after(run.does("event 1 0"), 99, 0, 0);
        run.refused("event 1 1", -2).refused("event 1 -1", -2);
        after(new Run("event 1 0"), 0, 0, 0);
        // nothing else happens: the design, which may be swapped then, is as it was
        after(new Run("size 4 2 1", "twist 1234 -1", "put b12 1", "put b03 1", "event 1 0", "event 3 b02"), 2, 3, -5);
    }

    @Holds(says = "2 THE DESIGN is SWAPPED by THE ROW, if it may be (n 0)")
    static void swapHappens() {
        Run run = new Run("size 4 2 1", "put b12 1", "put b03 1", "put b01 1", "twist 1234 1", "event 2 0");
        after(run, 2, 3, -5);
        // the block that came by the swap goes by event 3, one that went comes
        after(run.does("event 3 b02"), 2, 2, -5);
        after(run.does("event 3 b12"), 2, 3, -5);
        run.refused("event 2 1", -2).refused("event 2 -1", -2);
        // it may not be: nothing, and what comes behind happens
        after(new Run("size 4 2 1", "twist 1234 1", "put b12 1", "event 2 0"), 2, 1, -5);
        after(new Run("size 4 2 1", "count b01 1", "put b23 1", "event 2 0"), 1, 1, -5);
        after(new Run("size 4 2 1", "put b12 1", "put b03 1", "twist 1234 2", "event 2 0", "event 3 b02"), 4, 3, -5);
        after(new Run("size 4 2 1", "twist 1234 1", "put b12 1", "event 2 0", "event 3 b03"), 2, 2, 1);
        after(new Run("size 4 2 1", "event 2 0", "event 4 0"), 1, 0, 0);
    }

    @Holds(says = "3 BLOCK n is in THE DESIGN, if it wasn't, else not any more")
    static void blockComesOrGoes() {
        for (int[] s : Run.sizes()) {
            int last = Run.blocks(s[0], s[1]) - 1;
            Run run = new Run("size " + s[0] + " " + s[1] + " " + s[2], "event 3 " + last);
            after(run, 0, 1, -5);
            after(run.does("event 3 " + last), 0, 0, 0);
            after(run.does("put " + last + " 1"), 0, 1, -5);
            run.refused("event 3 " + (last + 1), -1).refused("event 3 -1", -1);
        }
    }

    @Holds(says = "4 COUNT of BLOCK n is 1 more")
    static void countIsMore() {
        for (int[] s : Run.sizes()) {
            int last = Run.blocks(s[0], s[1]) - 1;
            Run run = new Run("size " + s[0] + " " + s[1] + " " + s[2], "event 4 " + last);
            after(run, 1, 0, 0);
            after(run.does("count " + last + " -1"), 0, 0, 0);
            after(run.does("count " + last + " 98"), 99, 0, 0);
            after(run.does("count " + last + " 99"), 99, 0, 0);
            after(run.does("count " + last + " -99", "event 1 0"), 98, 0, 0);
            run.refused("event 4 " + (last + 1), -1).refused("event 4 -1", -1);
        }
    }

    @Holds(says = "what can't be, or isn't there by then: nothing")
    static void whatCannotBe() {
        after(new Run("count 5 99", "event 4 5", "event 4 5", "event 4 6"), 100, 0, 0);
        after(new Run("count b024 99", "event 0 123456", "event 4 0"), 100, 0, 0);
        after(new Run("event 2 0", "event 3 0"), 0, 1, -5);
        // blocks and twists that were there when they were told
        after(new Run("event 3 19", "event 3 0", "size 5 3 2"), 0, 1, -5);
        after(new Run("event 4 19", "event 4 9", "size 5 3 2"), 1, 0, 0);
        after(new Run("event 4 10", "event 3 10", "size 5 3 2"), 0, 0, 0);
        after(new Run("event 0 123456", "event 4 0", "size 6 3 1"), 1, 0, 0);
        after(new Run("event 0 123456", "event 4 0", "size 5 3 2"), 1, 0, 0);
        after(new Run("size 7 3 2", "event 0 234567", "event 4 0", "size 6 3 2"), 1, 0, 0);
        after(new Run("size 7 3 2", "event 0 123456", "event 4 0", "size 6 3 2"), 5, 0, 0);
        after(new Run("size 5 3 1", "event 0 12345", "size 8 3 1"), 2, 0, 0);
        after(new Run("size 4 2 1", "event 0 1234", "size 8 3 2"), 0, 0, 0);
        // they are there again
        after(new Run("event 3 19", "event 0 123456", "size 4 2 1", "size 6 3 2"), 4, 1, -5);
    }

    @Holds(says = "8 rows at most)")
    static void eventRows() {
        Run run = Run.full(6, 3, 2).does("event -1 0");
        for (int rows = 1; rows <= 8; rows++) {
            run.due("event 4 1", rows);
        }
        run.refused("event 4 1", -4).due("counted 1", 8).asked("after 0", 5 + 5);
    }

    @Holds(says = "AFTER, behind all of it: VOLUME; how many BLOCKS THE DESIGN has; INDEX (-5: none)")
    static void afterAll() {
        after(new Run(), 0, 0, 0);
        after(Run.full(6, 3, 2), 10, 1, -5);
        after(new Run("size 4 2 1", "event 3 b01", "event 3 b23"), 0, 2, 1);
        after(new Run("size 4 2 1", "put b01 1", "put b23 1", "event 3 b01", "event 3 b23"), 0, 0, 0);
        after(new Run("size 4 2 1", "put b01 1", "put b23 1", "event 3 b01"), 0, 1, -5);
        after(new Run("count 0 50", "event 4 0", "event 1 0", "event 4 1", "event 1 0", "event 4 2"), 52, 0, 0);
    }

    @Holds(says = "A BOOK told by hand: BLOCKS, COUNTS (8 rows at most)")
    static void bookRows() {
        Run run = Run.full(6, 3, 2).does("book -1 0");
        for (int rows = 1; rows <= 8; rows++) {
            run.due("book 19 " + (rows % 2 == 0 ? 99 : -99), rows);
        }
        run.refused("book 19 0", -4).due("counted 2", 8);
    }

    @Holds(says = "LOOKED at: the number (from 0) of the first of these rows whose BLOCK isn't there, or has another COUNT now"
            + " (-5: none)")
    static void lookedAtRows() {
        new Run().asked("looked", -5);
        Run run = new Run();
        for (int block = 0; block < 8; block++) {
            run.does("count " + block + " 7", "book " + block + " 7");
        }
        run.asked("looked", -5);
        for (int block = 7; block >= 0; block--) {
            run.does("count " + block + " -7").asked("looked", block);
        }
        new Run("book 3 0", "book 4 0", "size 4 3 2").asked("looked", 1).does("count 3 1").asked("looked", 0);
        new Run("book 0 99", "count 0 99").asked("looked", -5).does("count 0 98").asked("looked", 0).does("count 0 -99")
                .asked("looked", 0);
        new Run("book 0 0", "book 0 1").asked("looked", 1).does("count 0 1").asked("looked", 0);
        new Run("book 19 0", "size 6 2 1").asked("looked", 0).does("size 7 2 1").asked("looked", -5);
    }

    @Holds(promise = 29, says = "A row comes to EVENTS: how many there are")
    static void event() {
        new Run().due("event 0 123456", 1).due("event 1 0", 2).due("event 2 0", 3).due("event 3 0", 4).due("event 4 19", 5)
                .due("event 0 123456", 6).due("counted 1", 6);
    }

    @Holds(promise = 29, says = "(what -1: none then, 0, whatever the rest is)")
    static void eventNone() {
        new Run().due("event -1 0", 0).does("event 1 0").due("event -1 1", 0).due("counted 1", 0).does("event 1 0")
                .due("event -1 min", 0).due("event 1 0", 1).due("event -1 max", 0).due("event -1 -1", 0);
        Run run = new Run();
        for (int rows = 1; rows <= 8; rows++) {
            run.does("event 4 0");
        }
        run.refused("event 4 0", -4).due("event -1 99", 0).due("after 0", 0).due("event 4 0", 1).due("after 0", 1);
    }

    @Holds(promise = 29, says = "NONE: what (0 .. 4)")
    static void eventNoWhat() {
        Run.full(6, 3, 2).refused("event 5 0", -1).refused("event -2 0", -1).refused("event min 0", -1)
                .refused("event max 0", -1).due("event 4 0", 4).due("event 0 123456", 5);
    }

    @Holds(promise = 29, says = "BLOCK n as they are now (3, 4)")
    static void eventNoBlock() {
        for (int[] s : Run.sizes()) {
            int many = Run.blocks(s[0], s[1]);
            Run run = Run.full(s[0], s[1], s[2]);
            for (int what = 3; what <= 4; what++) {
                run.refused("event " + what + " -1", -1).refused("event " + what + " " + many, -1)
                        .refused("event " + what + " min", -1).refused("event " + what + " max", -1)
                        .due("event " + what + " " + (many - 1), what + 1);
            }
        }
        new Run("size 8 3 2", "event 3 55", "size 4 2 1").refused("event 3 55", -1).refused("event 3 6", -1).due("event 3 5", 2);
    }

    @Holds(promise = 29, says = "BAD: n isn't a TWIST as they are now (0), 0 (1, 2)")
    static void eventBad() {
        Run.full(6, 3, 2).refused("event 0 0", -2).refused("event 0 123455", -2).refused("event 0 123457", -2)
                .refused("event 0 12345", -2).refused("event 0 1234561", -2).refused("event 0 -123456", -2)
                .refused("event 0 min", -2).refused("event 0 max", -2).refused("event 1 1", -2).refused("event 1 -1", -2)
                .refused("event 1 min", -2).refused("event 2 1", -2).refused("event 2 -1", -2).refused("event 2 max", -2);
        Run.full(6, 3, 1).refused("event 0 123456", -2).due("event 0 12345", 4);
        Run.full(6, 2, 1).refused("event 0 12345", -2).due("event 0 1234", 4);
        Run.full(5, 3, 2).refused("event 0 123456", -2).refused("event 0 12345", -2);
        new Run("event 0 123456", "size 6 2 1").refused("event 0 123456", -2).due("event 0 6543", 2);
    }

    @Holds(promise = 29, says = "FULL: 8")
    static void eventFull() {
        Run run = Run.full(6, 3, 2).does("event 1 0", "event 1 0", "event 1 0", "event 1 0").due("event 1 0", 8);
        run.refused("event 0 123456", -4).refused("event 1 0", -4).refused("event 2 0", -4).refused("event 3 0", -4)
                .refused("event 4 0", -4);
    }

    @Holds(promise = 29, says = "NONE: what (0 .. 4), BLOCK n as they are now (3, 4); BAD: n isn't a TWIST as they are now (0),"
            + " 0 (1, 2); FULL: 8")
    static void eventRefusalsInOrder() {
        Run run = Run.full(6, 3, 2).does("event 1 0", "event 1 0", "event 1 0", "event 1 0", "event 1 0");
        run.refused("event 5 20", -1).refused("event 3 20", -1).refused("event 4 20", -1).refused("event 0 123455", -2)
                .refused("event 1 1", -2).refused("event 2 1", -2).refused("event 1 0", -4);
    }

    @Holds(promise = 30, says = "AFTER: what 0 VOLUME, 1 BLOCKS in THE DESIGN, 2 INDEX (-5)")
    static void after() {
        after(new Run("put 0 1", "count 0 3"), 3, 1, -5);
        after(new Run("size 6 3 1", "put b012 1", "event 3 b345", "event 4 0"), 1, 2, 1);
        // asked, nothing happens
        new Run("event 4 0", "event 3 0").asked("after 0", 1).asked("after 1", 1).due("after 0", 1).due("of 0 0", 100)
                .due("of 0 1", 0);
    }

    @Holds(promise = 30, says = "NONE")
    static void afterNone() {
        Run.full(6, 3, 2).refused("after 3", -1).refused("after -1", -1).refused("after min", -1).refused("after max", -1);
        new Run().refused("after 3", -1).refused("after -1", -1);
    }

    @Holds(promise = 31, says = "A row comes to the BOOK: how many there are")
    static void book() {
        new Run().due("book 0 0", 1).due("book 19 99", 2).due("book 0 -99", 3).due("book 0 -99", 4).due("counted 2", 4)
                .due("of 19 0", 100);
    }

    @Holds(promise = 31, says = "(block -1: it is empty then, 0, whatever the rest is)")
    static void bookEmpty() {
        new Run().due("book -1 0", 0).does("book 0 1").due("looked", 0).due("book -1 100", 0).due("looked", -5)
                .due("counted 2", 0).does("book 0 1").due("book -1 min", 0).due("book 1 0", 1).due("book -1 max", 0)
                .due("book -1 -100", 0);
        Run run = new Run();
        for (int rows = 1; rows <= 8; rows++) {
            run.does("book 0 1");
        }
        run.refused("book 0 0", -4).due("book -1 0", 0).due("book 0 0", 1).due("looked", -5);
    }

    @Holds(promise = 31, says = "NONE: block")
    static void bookNone() {
        for (int[] s : Run.sizes()) {
            int many = Run.blocks(s[0], s[1]);
            Run.full(s[0], s[1], s[2]).refused("book " + many + " 0", -1).refused("book -2 0", -1).refused("book min 0", -1)
                    .refused("book max 0", -1).due("book " + (many - 1) + " 0", 3);
        }
    }

    @Holds(promise = 31, says = "BAD: c (-99 .. 99)")
    static void bookBad() {
        Run.full(6, 3, 2).refused("book 0 100", -2).refused("book 0 -100", -2).refused("book 0 min", -2)
                .refused("book 0 max", -2).due("book 0 99", 3).due("book 0 -99", 4);
    }

    @Holds(promise = 31, says = "FULL: 8")
    static void bookFull() {
        Run.full(6, 3, 2).does("book 0 0", "book 0 0", "book 0 0", "book 0 0", "book 0 0").due("book 0 0", 8)
                .refused("book 0 0", -4).refused("book 19 99", -4);
    }

    @Holds(promise = 31, says = "NONE: block; BAD: c (-99 .. 99); FULL: 8")
    static void bookRefusalsInOrder() {
        Run run = Run.full(6, 3, 2).refused("book 20 100", -1);
        run.does("book 0 0", "book 0 0", "book 0 0", "book 0 0", "book 0 0", "book 0 0").refused("book 20 100", -1)
                .refused("book 20 0", -1).refused("book 0 100", -2).refused("book 0 0", -4);
    }

    @Holds(promise = 32, says = "LOOKED at; -5")
    static void looked() {
        new Run().asked("looked", -5).does("book 0 0").asked("looked", -5).does("count 0 1").asked("looked", 0);
        Run.full(6, 3, 2).asked("looked", -5).does("turn").asked("looked", 0);
    }
}
