/** The edges of promises 33 to 40: judging, the image, how many there are and tapes, here and in the Terms. */
public final class EdgesTapesTest {
    private static final long NO = Long.MIN_VALUE;

    public static void main(String[] args) {
        Edges.run(EdgesTapesTest.class);
    }

    @Holds(says = "THE IMAGE: v, k, t, THE ROW, THE DESIGN, KEPT, SEEN, EVENTS, the BOOK")
    static void imageHolds() {
        String[] changes = {"size 8 2 1", "size 5 3 1", "count 9 1", "put 8 0", "keep", "see -1 0", "see p 3", "event -1 0",
            "event 1 0", "book -1 0", "book 9 0", "exchange 0 4", "turn", "clear", "differ"};
        for (String change : changes) {
            new Run("size 5 3 1", "count 9 -99", "put 9 1", "keep", "put 9 0", "put 8 1", "see p4 -99", "event 4 9",
                    "book 9 -99", "image").does(change).due("undo", 1).due("told 9", 531).due("of 9 0", 1).blocksIn(1, "134").blocksIn(2, "234")
                    .due("fits 9 0", 0).due("counted 0", 1).due("after 0", 0).due("counted 1", 1).due("looked", -5)
                    .due("counted 2", 1).due("told 1", 0);
        }
    }

    @Holds(says = "THE IMAGE: v, k, t, THE ROW, THE DESIGN, KEPT, SEEN, EVENTS, the BOOK.")
    static void imageDoesNotHold() {
        // neither THE TEXT nor TAPES
        new Run("feed 116", "tape 0 0 3", "item 0 0 5", "image", "feed 117", "feed 114", "feed 110", "item 0 0 6", "tape 1 3 1")
                .due("undo", 0).due("counted 3", 4).due("peek 0 0", 6).due("peek 1 0", 0).due("read", 1).due("undo", 0)
                .due("counted 3", 0);
    }

    @Holds(says = "TAPES 0 .. 5 hold nothing (at first)")
    static void tapesAtFirst() {
        Run run = new Run();
        for (int tape = 0; tape <= 5; tape++) {
            run.asked("peek " + tape + " 0", NO).refused("item " + tape + " 0 1", -11).asked("judge " + tape + " 0", 100);
        }
        run.refused("judge 6 0", -1).refused("judge -1 0", -1).refused("item 6 0 1", -1).refused("item -1 0 1", -1)
                .due("tape 5 0 1", 1).refused("tape 6 0 1", -1).refused("tape -1 0 1", -1);
    }

    @Holds(says = "or a row of 0 bytes, 1 shorts, 2 ints, 3 longs, 4 booleans (items 0, 1)")
    static void sorts() {
        // what 2 to the power of 7, 15, 31 and 63 become, and 1 less than these
        long[] values = {127, 128, 32767, 32768, 2147483647L, 2147483648L, Long.MAX_VALUE, NO};
        long[][] wants = {{127, -128, -1, 0, -1, 0, -1, 0}, {127, 128, 32767, -32768, -1, 0, -1, 0},
            {127, 128, 32767, 32768, 2147483647L, -2147483648L, -1, 0}, values, {1, 1, 1, 1, 1, 1, 1, 1}};
        for (int sort = 0; sort <= 4; sort++) {
            Run run = new Run("tape 5 " + sort + " 8");
            for (int i = 0; i < values.length; i++) {
                run.due("item 5 " + i + " " + values[i], 1);
            }
            run.row(5, wants[sort]);
        }
        Run.full(6, 3, 2).refused("tape 0 5 1", -2).refused("tape 0 -2 1", -2);
    }

    @Holds(says = "COUNTS of BLOCKS 0, 1, .. told by a row of bytes, from a place on, are JUDGED: the first BLOCK that is otherwise"
            + " (counted from 0 from that place on)")
    static void judgedOtherwise() {
        for (int[] s : Run.sizes()) {
            int many = Run.blocks(s[0], s[1]);
            Run run = new Run("size " + s[0] + " " + s[1] + " " + s[2], "tape 0 0 60", "tape 1 0 60");
            run.asked("judge 0 0", -5).does("count " + (many - 1) + " -99").asked("judge 0 0", many - 1)
                    .asked("judge 0 " + (60 - many), many - 1).does("item 0 " + (many - 1) + " -99").asked("judge 0 0", -5)
                    .does("item 1 59 -99").asked("judge 1 " + (60 - many), -5).does("count 0 1").asked("judge 0 0", 0)
                    .does("item 0 0 2").asked("judge 0 0", 0).does("item 0 0 1").asked("judge 0 0", -5);
        }
        // of two the first
        new Run("tape 0 0 20", "count 3 1", "count 7 1").asked("judge 0 0", 3);
        // bytes wrap around: 257 is 1, 128 is no count
        new Run("tape 0 0 20", "count 0 1", "item 0 0 257").asked("judge 0 0", -5).does("item 0 0 255", "count 0 -1")
                .asked("judge 0 0", -5).does("item 0 0 128").asked("judge 0 0", 0);
    }

    @Holds(says = "-5: none")
    static void judgedAlike() {
        new Run("tape 0 0 20").asked("judge 0 0", -5).does("count 0 99", "item 0 0 99", "count 19 -99", "item 0 19 -99")
                .asked("judge 0 0", -5).does("tape 0 0 60").asked("judge 0 20", 0).does("clear").asked("judge 0 40", -5)
                .asked("judge 0 41", 119);
    }

    @Holds(says = "100 and how many were looked at, if the row ends ahead of that (or the place is below 0,"
            + " or the TAPE holds nothing)")
    static void judgedToTheEnd() {
        for (int[] s : Run.sizes()) {
            int many = Run.blocks(s[0], s[1]);
            Run run = new Run("size " + s[0] + " " + s[1] + " " + s[2], "tape 0 0 " + (many - 1));
            run.asked("judge 0 0", 100 + many - 1).asked("judge 0 1", 100 + many - 2).asked("judge 0 " + (many - 2), 101)
                    .asked("judge 0 " + (many - 1), 100).asked("judge 0 " + many, 100).asked("judge 0 max", 100)
                    .asked("judge 0 -1", 100).asked("judge 0 min", 100).does("tape 0 0 " + many).asked("judge 0 0", -5)
                    .asked("judge 0 1", 100 + many - 1);
        }
        new Run("tape 0 0 0").asked("judge 0 0", 100).asked("judge 0 1", 100).asked("judge 0 -1", 100);
        new Run("tape 0 0 1", "tape 0 -1 0").asked("judge 0 0", 100).asked("judge 0 -1", 100).asked("judge 0 max", 100);
        // what is otherwise stands ahead of the end, or behind it
        new Run("tape 0 0 3", "count 2 1").asked("judge 0 0", 2).asked("judge 0 1", 102).does("count 3 1", "count 2 0")
                .asked("judge 0 0", 103);
    }

    @Holds(says = "The host's refusals: NOTHING (-11): nothing is there; CAST (-12): another sort; PLACE (-13): no such place;"
            + " SIZE (-14): a size below 0")
    static void hostsRefusals() {
        Run.full(6, 3, 2).refused("item 5 0 1", -11).refused("judge 1 0", -12).refused("item 0 5 1", -13)
                .refused("tape 0 0 -1", -14);
    }

    @Holds(promise = 33, says = "JUDGED from place i of a TAPE on")
    static void judge() {
        new Run("size 4 2 1", "tape 3 0 10", "count 0 5", "count 5 -5", "item 3 4 5", "item 3 9 -5").asked("judge 3 4", -5)
                .asked("judge 3 3", 0).asked("judge 3 5", 0).asked("judge 3 0", 0).asked("judge 3 10", 100).does("count 1 1")
                .asked("judge 3 4", 1);
    }

    @Holds(promise = 33, says = "NONE: tape")
    static void judgeNone() {
        Run.full(6, 3, 2).refused("judge 6 0", -1).refused("judge -1 0", -1).refused("judge min 0", -1).refused("judge max 0", -1)
                .refused("judge 6 -1", -1).asked("judge 5 0", 100);
    }

    @Holds(promise = 33, says = "CAST: it is no row of bytes")
    static void judgeCast() {
        Run run = Run.full(6, 3, 2);
        for (int tape = 1; tape <= 4; tape++) {
            run.refused("judge " + tape + " 0", -12).refused("judge " + tape + " 60", -12);
        }
        new Run("tape 0 3 0", "tape 1 4 60", "tape 2 0 0").refused("judge 0 0", -12).refused("judge 1 0", -12)
                .asked("judge 2 0", 100);
    }

    @Holds(promise = 34, says = "THE IMAGE is taken: BLOCKS in THE DESIGN")
    static void image() {
        new Run().due("image", 0).does("put 0 1", "put 19 1").due("undo", 0).does("put 0 1", "put 19 1").due("image", 2)
                .does("put 1 1").due("undo", 2).blocksIn(1, "012 345");
        Run most = new Run("size 8 3 2");
        for (int block = 0; block < 56; block++) {
            most.does("put " + block + " 1");
        }
        most.due("image", 56).does("size 8 3 2").due("undo", 56).due("told 5", 56);
    }

    @Holds(promise = 35, says = "All is as THE IMAGE: BLOCKS in THE DESIGN")
    static void undo() {
        for (int[] s : Run.sizes()) {
            int last = Run.blocks(s[0], s[1]) - 1;
            for (int[] other : Run.sizes()) {
                new Run("size " + s[0] + " " + s[1] + " " + s[2], "count " + last + " 99", "put " + last + " 1", "keep", "image",
                        "size " + other[0] + " " + other[1] + " " + other[2], "count 0 -99", "put 0 1").due("undo", 1)
                        .due("told 9", 100 * s[0] + 10 * s[1] + s[2]).due("of " + last + " 0", 199).due("of " + last + " 1", 1)
                        .due("of " + last + " 2", 1).due("told 0", last + 1).due("clear", 1).due("told 5", 1);
            }
        }
        // the image stays as it was taken, and can be taken back to again
        new Run("put 0 1", "image", "put 1 1").due("undo", 1).does("put 1 1", "put 2 1").due("undo", 1).due("undo", 1)
                .blocksIn(1, "012");
        new Run("see p 1", "event 4 0", "book 0 0", "image").due("undo", 0).does("see p 2", "event 4 1", "book 1 1")
                .due("undo", 0).due("counted 0", 1).due("counted 1", 1).due("counted 2", 1);
    }

    @Holds(promise = 35, says = "STATE: there is none")
    static void undoState() {
        new Run("count 0 5", "put 0 1", "keep", "see p 1", "event 1 0", "book 0 0", "feed 116", "tape 0 0 1").refused("undo", -3)
                .refused("undo", -3).due("image", 1).due("undo", 1);
    }

    @Holds(promise = 36, says = "How many: 0 SEEN, 1 EVENTS, 2 of the BOOK, 3 bytes of THE TEXT")
    static void counted() {
        new Run().asked("counted 0", 0).asked("counted 1", 0).asked("counted 2", 0).asked("counted 3", 0);
        new Run("see p 0", "event 1 0", "event 1 0", "book 0 0", "book 0 0", "book 0 0", "feed 1", "feed 1", "feed 1", "feed 1")
                .asked("counted 0", 1).asked("counted 1", 2).asked("counted 2", 3).asked("counted 3", 4);
        Run most = new Run();
        for (int i = 0; i < 110; i++) {
            most.does("see p 0", "event 1 0", "book 0 0", "feed 1");
        }
        most.due("counted 0", 4).due("counted 1", 8).due("counted 2", 8).due("counted 3", 100);
    }

    @Holds(promise = 36, says = "BAD")
    static void countedBad() {
        Run.full(6, 3, 2).refused("counted 4", -2).refused("counted -1", -2).refused("counted min", -2)
                .refused("counted max", -2);
    }

    @Holds(promise = 37, says = "A TAPE becomes a row of n (0 .. 60) of a sort, all 0")
    static void tape() {
        for (int sort = 0; sort <= 4; sort++) {
            Run run = new Run();
            run.due("tape 0 " + sort + " 60", 1).does("item 0 0 1", "item 0 59 1").due("tape 0 " + sort + " 60", 1)
                    .row(0, new long[60]).due("tape 0 " + sort + " 59", 1).row(0, new long[59]).refused("item 0 59 1", -13)
                    .due("tape 0 " + sort + " 1", 1).row(0, 0).due("tape 0 " + sort + " 0", 1).row(0).refused("item 0 0 1", -13)
                    .does("tape 0 " + sort + " 60").row(0, new long[60]);
        }
    }

    @Holds(promise = 37, says = "or holds nothing (sort -1: n does not matter): 1")
    static void tapeOfNothing() {
        String[] sizes = {"0", "-1", "60", "61", "min", "max"};
        for (String n : sizes) {
            new Run("tape 2 0 5", "tape 3 0 5").due("tape 2 -1 " + n, 1).asked("peek 2 0", NO).refused("item 2 0 1", -11)
                    .row(3, 0, 0, 0, 0, 0);
        }
        new Run().due("tape 5 -1 0", 1).due("tape 5 2 3", 1).row(5, 0, 0, 0);
    }

    @Holds(promise = 37, says = "NONE: tape")
    static void tapeNone() {
        Run.full(6, 3, 2).refused("tape 6 0 0", -1).refused("tape -1 0 0", -1).refused("tape min 0 0", -1)
                .refused("tape max 0 0", -1).refused("tape 6 -1 0", -1).due("tape 5 0 0", 1);
    }

    @Holds(promise = 37, says = "BAD: sort, n above 60")
    static void tapeBad() {
        Run.full(6, 3, 2).refused("tape 0 5 0", -2).refused("tape 0 -2 0", -2).refused("tape 0 min 0", -2)
                .refused("tape 0 max 0", -2).refused("tape 0 0 61", -2).refused("tape 0 4 61", -2).refused("tape 0 0 max", -2)
                .due("tape 0 0 60", 1);
    }

    @Holds(promise = 37, says = "SIZE")
    static void tapeSize() {
        Run run = Run.full(6, 3, 2);
        for (int sort = 0; sort <= 4; sort++) {
            run.refused("tape 0 " + sort + " -1", -14).refused("tape 5 " + sort + " min", -14);
        }
        run.due("tape 0 0 0", 1);
    }

    @Holds(promise = 37, says = "NONE: tape; BAD: sort, n above 60; SIZE")
    static void tapeRefusalsInOrder() {
        Run.full(6, 3, 2).refused("tape 6 5 61", -1).refused("tape 6 0 -1", -1).refused("tape 0 5 -1", -2)
                .refused("tape 0 -2 -1", -2).refused("tape 0 0 -1", -14);
    }

    @Holds(promise = 38, says = "Item i of a TAPE becomes v (its lowest bits, as many as an item has")
    static void item() {
        long[] values = {0, 1, -1, 255, 256, 257, -129, 65535, 65536, 65537, -32769, 4294967295L, 4294967296L, 4294967297L,
            -2147483649L, Long.MAX_VALUE, NO};
        for (int sort = 0; sort <= 3; sort++) {
            Run run = new Run("tape 1 " + sort + " 60");
            for (int i = 0; i < values.length; i++) {
                long v = values[i];
                int above = 64 - (8 << sort);
                run.due("item 1 " + (i + 43) + " " + v, 1).due("peek 1 " + (i + 43), v << above >> above);
            }
            run.due("peek 1 42", 0);
        }
    }

    @Holds(promise = 38, says = "booleans: whether v is not 0): 1")
    static void itemOfBooleans() {
        String[] values = {"1", "2", "-1", "256", "4294967296", "MIN", "MAX"};
        for (String v : values) {
            new Run("tape 0 4 3").due("item 0 1 " + v, 1).row(0, 0, 1, 0).due("item 0 1 0", 1).row(0, 0, 0, 0);
        }
    }

    @Holds(promise = 38, says = "NONE")
    static void itemNone() {
        Run.full(6, 3, 2).refused("item 6 0 1", -1).refused("item -1 0 1", -1).refused("item min 0 1", -1)
                .refused("item max 0 1", -1);
    }

    @Holds(promise = 38, says = "NOTHING")
    static void itemNothing() {
        Run.full(6, 3, 2).refused("item 5 0 1", -11).refused("item 5 -1 1", -11).does("tape 0 -1 0").refused("item 0 0 1", -11);
    }

    @Holds(promise = 38, says = "PLACE")
    static void itemPlace() {
        Run run = Run.full(6, 3, 2);
        int[] lengths = {5, 3, 60, 2, 4};
        for (int tape = 0; tape < lengths.length; tape++) {
            run.refused("item " + tape + " -1 1", -13).refused("item " + tape + " " + lengths[tape] + " 1", -13)
                    .refused("item " + tape + " min 1", -13).refused("item " + tape + " max 1", -13)
                    .due("item " + tape + " " + (lengths[tape] - 1) + " 1", 1).due("item " + tape + " 0 1", 1);
        }
        new Run("tape 0 0 0").refused("item 0 0 1", -13).refused("item 0 -1 1", -13);
    }

    @Holds(promise = 38, says = "NONE; NOTHING; PLACE")
    static void itemRefusalsInOrder() {
        Run.full(6, 3, 2).refused("item 6 -1 1", -1).refused("item 5 60 1", -11).refused("item 0 60 1", -13);
    }

    @Holds(promise = 39, says = "Item i of a TAPE")
    static void peek() {
        Run.full(6, 3, 2).asked("peek 0 0", 5).asked("peek 0 4", 0).asked("peek 1 2", -5).asked("peek 2 59", 77)
                .asked("peek 3 1", 1).asked("peek 4 3", 9).asked("peek 4 0", 0);
        new Run("tape 0 3 2", "item 0 0 MIN", "item 0 1 MAX").asked("peek 0 0", NO).asked("peek 0 1", Long.MAX_VALUE);
    }

    @Holds(promise = 39, says = "NO: no such TAPE, nothing there, no such place")
    static void peekNo() {
        Run.full(6, 3, 2).refused("peek 6 0", NO).refused("peek -1 0", NO).refused("peek min 0", NO).refused("peek max 0", NO)
                .refused("peek 5 0", NO).refused("peek 5 -1", NO).refused("peek 0 5", NO).refused("peek 0 -1", NO)
                .refused("peek 0 min", NO).refused("peek 0 max", NO).refused("peek 2 60", NO).asked("peek 2 59", 77);
        new Run("tape 0 0 0").refused("peek 0 0", NO).does("tape 0 2 9", "tape 0 -1 9").refused("peek 0 0", NO);
    }

    private static Run twoRows(int sort) {
        Run run = new Run("tape 0 " + sort + " 6", "tape 5 " + sort + " 4");
        for (int i = 0; i < 6; i++) {
            run.does("item 0 " + i + " " + (i + 1));
        }
        return run.does("item 5 0 -1", "item 5 3 -4");
    }

    @Holds(promise = 40, says = "n items of a TAPE from i on come to another one (or the same) from j on, as they all were before: n")
    static void shift() {
        for (int sort = 0; sort <= 3; sort++) {
            twoRows(sort).due("shift 0 2 5 0 4", 4).row(5, 3, 4, 5, 6).row(0, 1, 2, 3, 4, 5, 6);
            twoRows(sort).due("shift 0 5 5 3 1", 1).row(5, -1, 0, 0, 6);
            twoRows(sort).due("shift 5 0 0 2 4", 4).row(0, 1, 2, -1, 0, 0, -4).row(5, -1, 0, 0, -4);
            twoRows(sort).due("shift 0 0 0 1 5", 5).row(0, 1, 1, 2, 3, 4, 5);
            twoRows(sort).due("shift 0 1 0 0 5", 5).row(0, 2, 3, 4, 5, 6, 6);
            twoRows(sort).due("shift 0 0 0 0 6", 6).row(0, 1, 2, 3, 4, 5, 6);
            twoRows(sort).due("shift 0 0 0 3 3", 3).row(0, 1, 2, 3, 1, 2, 3);
            twoRows(sort).due("shift 0 0 5 0 0", 0).due("shift 0 6 5 4 0", 0).row(0, 1, 2, 3, 4, 5, 6).row(5, -1, 0, 0, -4);
        }
        new Run("tape 0 4 3", "tape 1 4 3", "item 0 0 1").due("shift 0 0 1 2 1", 1).row(1, 0, 0, 1).row(0, 1, 0, 0);
        new Run("tape 0 0 60", "item 0 59 7", "tape 1 0 60").due("shift 0 0 1 0 60", 60).due("peek 1 59", 7)
                .refused("shift 0 0 1 0 61", -13);
        new Run("tape 0 0 0", "tape 1 0 0").due("shift 0 0 1 0 0", 0).due("shift 0 0 0 0 0", 0).refused("shift 0 0 1 0 1", -13);
    }

    @Holds(promise = 40, says = "NONE: tapes")
    static void shiftNone() {
        Run.full(6, 3, 2).refused("shift 6 0 0 0 0", -1).refused("shift 0 0 6 0 0", -1).refused("shift -1 0 0 0 0", -1)
                .refused("shift 0 0 -1 0 0", -1).refused("shift min 0 0 0 0", -1).refused("shift 0 0 max 0 0", -1)
                .refused("shift 6 0 6 0 0", -1);
    }

    @Holds(promise = 40, says = "NOTHING")
    static void shiftNothing() {
        Run.full(6, 3, 2).refused("shift 5 0 0 0 0", -11).refused("shift 0 0 5 0 0", -11).refused("shift 5 0 5 0 0", -11)
                .refused("shift 5 0 0 0 1", -11).does("tape 0 -1 0").refused("shift 0 0 0 0 0", -11);
    }

    @Holds(promise = 40, says = "CAST: of unlike sorts")
    static void shiftCast() {
        Run run = Run.full(6, 3, 2);
        for (int tape = 0; tape <= 4; tape++) {
            for (int other = 0; other <= 4; other++) {
                if (tape == other) {
                    run.due("shift " + tape + " 0 " + other + " 0 2", 2);
                } else {
                    run.refused("shift " + tape + " 0 " + other + " 0 1", -12).due("shift " + tape + " 0 " + other + " 0 0", -12);
                }
            }
        }
    }

    @Holds(promise = 40, says = "PLACE: n, i or j is below 0, or beyond either's end")
    static void shiftPlace() {
        Run run = twoRows(0);
        run.refused("shift 0 0 5 0 -1", -13).refused("shift 0 -1 5 0 0", -13).refused("shift 0 -1 5 0 1", -13)
                .refused("shift 0 0 5 -1 0", -13).refused("shift 0 0 5 -1 1", -13).refused("shift 0 7 5 0 0", -13)
                .refused("shift 0 0 5 5 0", -13).refused("shift 0 6 5 0 1", -13).refused("shift 0 0 5 4 1", -13)
                .refused("shift 0 3 5 0 4", -13).refused("shift 0 0 5 1 4", -13).refused("shift 0 0 5 0 5", -13)
                .refused("shift 5 0 0 0 5", -13).refused("shift 0 0 0 1 6", -13).refused("shift 0 1 0 0 6", -13);
        // no sum of these wraps around
        run.refused("shift 0 1 5 0 max", -13).refused("shift 0 max 5 0 1", -13).refused("shift 0 0 5 max 1", -13)
                .refused("shift 0 max 5 max max", -13).refused("shift 0 0 5 0 min", -13).refused("shift 0 min 5 0 1", -13)
                .refused("shift 0 0 5 min 1", -13).refused("shift 0 min 5 min min", -13).refused("shift 0 max 0 max 2", -13);
        run.due("shift 0 2 5 0 4", 4);
    }

    @Holds(promise = 40, says = "NONE: tapes; NOTHING; CAST: of unlike sorts; PLACE: n, i or j is below 0, or beyond either's end")
    static void shiftRefusalsInOrder() {
        Run.full(6, 3, 2).refused("shift 6 -1 5 -1 -1", -1).refused("shift 5 -1 6 -1 -1", -1).refused("shift 5 -1 0 -1 -1", -11)
                .refused("shift 1 -1 5 -1 -1", -11).refused("shift 0 -1 1 -1 -1", -12).refused("shift 0 60 1 60 60", -12)
                .refused("shift 0 -1 0 0 0", -13);
    }
}
