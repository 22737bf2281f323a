/** The edges of promises 1 to 11: a new object, rows and designs. */
public final class EdgesRowsTest {
    public static void main(String[] args) {
        Edges.run(EdgesRowsTest.class);
    }

    @Holds(promise = 1, says = "v 6, k 3, t 2, all COUNTS 0, THE DESIGN without BLOCKS")
    static void newObject() {
        Run run = new Run();
        run.asked("told 9", 632).asked("told 0", 20).asked("told 5", 0).counts(new int[20]).blocksIn(1, "").blocksIn(2, "")
                .writes("0");
        for (int what = 0; what <= 3; what++) {
            run.asked("counted " + what, 0);
        }
        for (int tape = 0; tape < 6; tape++) {
            run.asked("peek " + tape + " 0", Long.MIN_VALUE).refused("item " + tape + " 0 1", -11);
        }
        run.refused("undo", -3).asked("looked", -5).asked("after 0", 0).asked("fits 19 0", 19);
    }

    @Holds(promise = 1, says = "v 6, k 3, t 2, all COUNTS 0, THE DESIGN without BLOCKS")
    static void newObjectBesideAnother() {
        TradedDesigns one = new TradedDesigns();
        one.size(8, 3, 2);
        one.count(55, 9);
        one.put(55, 1);
        one.image();
        one.tape(0, 0, 60);
        new Run().due("told 9", 632).due("told 1", 0).due("told 5", 0).due("undo", -3).due("peek 0 0", Long.MIN_VALUE);
        Check.due("the first one's block", one.of(55, 1), 1);
    }

    @Holds(promise = 2, says = "v, k, t become these")
    static void sizesBecome() {
        for (int[] s : Run.sizes()) {
            for (int[] other : Run.sizes()) {
                new Run("size " + other[0] + " " + other[1] + " " + other[2])
                        .due("size " + s[0] + " " + s[1] + " " + s[2], 100 * other[0] + 10 * other[1] + other[2])
                        .due("told 9", 100 * s[0] + 10 * s[1] + s[2]).due("told 0", Run.blocks(s[0], s[1]));
            }
        }
    }

    @Holds(promise = 2, says = "COUNTS are 0, THE DESIGN, KEPT have no BLOCKS")
    static void sizeEmpties() {
        for (int[] s : Run.sizes()) {
            Run run = new Run("size 8 3 2");
            for (int block = 0; block < 56; block += 5) {
                run.does("count " + block + " 99", "put " + block + " 1");
            }
            run.does("keep").due("size " + s[0] + " " + s[1] + " " + s[2], 832).counts(new int[Run.blocks(s[0], s[1])])
                    .blocksIn(1, "").blocksIn(2, "");
            // the blocks that were no more are there again, and empty
            run.due("size 8 3 2", 100 * s[0] + 10 * s[1] + s[2]).counts(new int[56]).due("told 5", 0).due("told 7", 0);
        }
    }

    @Holds(promise = 2, says = "(also if v, k, t are as they were")
    static void sizeAsItWas() {
        for (int[] s : Run.sizes()) {
            Run.full(s[0], s[1], s[2]).due("size " + s[0] + " " + s[1] + " " + s[2], 100 * s[0] + 10 * s[1] + s[2])
                    .counts(new int[Run.blocks(s[0], s[1])]).blocksIn(1, "").blocksIn(2, "");
        }
    }

    @Holds(promise = 2, says = "SEEN, EVENTS, the BOOK stay)")
    static void sizeKeepsWhatIsTold() {
        Run.full(6, 3, 2).due("size 6 3 2", 632).due("counted 0", 3).due("counted 1", 3).due("counted 2", 2)
                .due("counted 3", 4).due("looked", 0).due("fits 0 0", 0).due("after 0", 0).due("after 1", 1)
                .due("read", 1).row(0, 5, 0, 0, 0, 0).due("undo", 2);
        Run.full(6, 3, 2).due("size 4 2 1", 632).due("counted 0", 3).due("counted 1", 3).due("counted 2", 2)
                .due("size 6 3 2", 421).due("counted 0", 3).due("counted 1", 3).due("counted 2", 2);
        new Run("see p5 0", "event 3 19", "book 19 0", "size 4 2 1").due("fits 0 0", 0).due("after 1", 0).due("looked", 0)
                .does("size 6 3 2").due("fits 0 0", 19).due("after 1", 1).due("looked", -5);
    }

    @Holds(promise = 2, says = "100 times v, 10 times k, and t as they were")
    static void sizesThatWere() {
        new Run().due("size 8 3 2", 632).due("size 4 2 1", 832).due("size 4 3 1", 421).due("size 4 3 2", 431)
                .due("size 8 2 1", 432).due("size 8 2 1", 821);
    }

    @Holds(promise = 2, says = "BAD")
    static void sizeBad() {
        int[] numbers = {Integer.MIN_VALUE, -6, -1, 0, 1, 2, 3, 4, 5, 6, 7, 8, 9, 10, Integer.MAX_VALUE};
        for (int v : numbers) {
            for (int k : numbers) {
                for (int t : numbers) {
                    boolean right = v >= 4 && v <= 8 && (k == 2 && t == 1 || k == 3 && (t == 1 || t == 2));
                    new Run().due("size " + v + " " + k + " " + t, right ? 632 : -2)
                            .due("told 9", right ? 100 * v + 10 * k + t : 632);
                }
            }
        }
        Run.full(5, 2, 1).refused("size 3 2 1", -2).refused("size 9 2 1", -2).refused("size 5 1 1", -2)
                .refused("size 5 4 1", -2).refused("size 5 2 0", -2).refused("size 5 2 2", -2).refused("size 5 3 3", -2)
                .refused("size min min min", -2).refused("size max max max", -2);
    }

    @Holds(promise = 3, says = "COUNT of a BLOCK becomes c: what it was, and 100")
    static void countBecomes() {
        new Run().due("count 0 99", 100).due("count 0 -99", 199).due("count 0 0", 1).due("count 0 -1", 100)
                .due("count 0 -1", 99).due("count 19 1", 100).due("count 19 1", 101).due("of 0 0", 99).due("of 1 0", 100)
                .due("of 18 0", 100).due("of 19 0", 101);
    }

    @Holds(promise = 3, says = "NONE: block")
    static void countOfNoBlock() {
        for (int[] s : Run.sizes()) {
            Run.full(s[0], s[1], s[2]).refused("count -1 0", -1).refused("count " + Run.blocks(s[0], s[1]) + " 0", -1)
                    .refused("count min 0", -1).refused("count max 0", -1).due("count " + (Run.blocks(s[0], s[1]) - 1) + " 0", 93);
        }
    }

    @Holds(promise = 3, says = "BAD")
    static void countBad() {
        Run.full(6, 3, 2).refused("count 0 100", -2).refused("count 0 -100", -2).refused("count 19 max", -2)
                .refused("count 19 min", -2).due("count 0 99", 105).due("count 0 -99", 199);
    }

    @Holds(promise = 3, says = "NONE: block; BAD")
    static void countRefusalsInOrder() {
        Run.full(6, 3, 2).refused("count 20 100", -1).refused("count -1 -100", -1).refused("count min min", -1);
    }

    @Holds(promise = 4, says = "N (-9 .. 9, not 0) times SIGN comes to the COUNT of each BLOCK of a TWIST: VOLUME")
    static void twistTimes() {
        for (int n = -9; n <= 9; n++) {
            Run run = new Run();
            if (n == 0) {
                run.refused("twist 123456 0", -2);
            } else {
                run.due("twist 123456 " + n, 4 * Math.abs(n)).due("of b024 0", 100 + n).due("of b124 0", 100 - n)
                        .due("of b135 0", 100 - n).due("twist 123456 " + n, 8 * Math.abs(n)).due("of b024 0", 100 + 2 * n)
                        .due("told 5", 0);
            }
        }
        Run.full(6, 3, 2).refused("twist 123456 -10", -2).refused("twist 123456 10", -2).refused("twist 123456 min", -2)
                .refused("twist 123456 max", -2).due("twist 123456 9", 41).due("twist 123456 -9", 5);
        // the volume counts what lies beside the twist, too
        new Run("count b012 7", "count b013 -7").due("twist 123456 1", 11);
    }

    @Holds(promise = 4, says = "BAD: twist, n")
    static void twistBad() {
        Run.full(6, 3, 2).refused("twist 123455 1", -2).refused("twist 123457 1", -2).refused("twist 123450 1", -2)
                .refused("twist 12345 1", -2).refused("twist 1234567 1", -2).refused("twist -123456 1", -2)
                .refused("twist 0 1", -2).refused("twist 123456 0", -2).refused("twist 123456 10", -2)
                .refused("twist 123456 -10", -2).refused("twist 123455 0", -2);
    }

    @Holds(promise = 4, says = "STATE: a COUNT would be beyond")
    static void twistBeyond() {
        String[] plus = {"b024", "b134", "b125", "b035"};
        String[] minus = {"b124", "b034", "b025", "b135"};
        for (String block : plus) {
            new Run("count " + block + " 91").refused("twist 123456 9", -3).due("twist 123456 8", 91 + 32);
            new Run("count " + block + " 99").refused("twist 123456 1", -3).due("twist 123456 -1", 98 + 4);
            new Run("count " + block + " -99").refused("twist 123456 -1", -3).due("twist 123456 1", 3);
            new Run("count " + block + " -91").refused("twist 123456 -9", -3).due("twist 123456 -8", 32);
        }
        for (String block : minus) {
            new Run("count " + block + " 91").refused("twist 123456 -9", -3).due("twist 123456 -8", 91 + 32);
            new Run("count " + block + " 99").refused("twist 123456 -1", -3).due("twist 123456 1", 98 + 4);
            new Run("count " + block + " -99").refused("twist 123456 1", -3).due("twist 123456 -1", 3);
        }
        // a count beside the twist may stand at the end
        new Run("count b012 99", "count b345 -99").due("twist 123456 9", 99 + 36);
    }

    @Holds(promise = 4, says = "BAD: twist, n; STATE: a COUNT would be beyond")
    static void twistRefusalsInOrder() {
        Run.full(6, 3, 2).does("count b024 99").refused("twist 123456 10", -2).refused("twist 123455 1", -2)
                .refused("twist 123456 0", -2).refused("twist 123456 1", -3);
    }

    @Holds(promise = 5, says = "All COUNTS change their signs: VOLUME")
    static void turn() {
        new Run().due("turn", 0).counts(new int[20]);
        new Run("count 0 99", "count 1 -98", "count 19 -1", "put 3 1").due("turn", 99).due("of 0 0", 1).due("of 1 0", 198)
                .due("of 19 0", 101).due("of 2 0", 100).due("told 5", 1).due("turn", 99).due("of 0 0", 199);
        new Run("count 0 -5").due("turn", 5).due("turn", 0);
        for (int[] s : Run.sizes()) {
            int last = Run.blocks(s[0], s[1]) - 1;
            new Run("size " + s[0] + " " + s[1] + " " + s[2], "count " + last + " 99").due("turn", 0)
                    .due("of " + last + " 0", 1).due("turn", 99);
        }
    }

    @Holds(promise = 6, says = "All COUNTS are 0: how many weren't")
    static void clear() {
        new Run().due("clear", 0);
        new Run("count 0 -1", "count 19 99", "count 7 1", "count 7 0", "put 4 1", "keep").due("clear", 2)
                .counts(new int[20]).due("clear", 0).due("told 5", 1).due("told 7", 1);
        for (int[] s : Run.sizes()) {
            Run run = new Run("size " + s[0] + " " + s[1] + " " + s[2]);
            int many = Run.blocks(s[0], s[1]);
            for (int block = 0; block < many; block++) {
                run.does("count " + block + " -1");
            }
            run.due("clear", many).due("clear", 0).counts(new int[many]);
        }
    }

    @Holds(promise = 7, says = "A BLOCK is in THE DESIGN (is 1), or not (0): whether it was (1, 0)")
    static void put() {
        new Run().due("put 0 0", 0).due("put 0 1", 0).due("put 0 1", 1).due("put 19 1", 0).blocksIn(1, "012 345")
                .blocksIn(2, "").due("put 0 0", 1).due("put 0 0", 0).blocksIn(1, "345").counts(new int[20]);
        new Run("size 8 3 2", "put 55 1", "put 32 1", "put 31 1").blocksIn(1, "156 256 567").due("put 32 0", 1)
                .blocksIn(1, "156 567");
    }

    @Holds(promise = 7, says = "NONE: block")
    static void putNoBlock() {
        for (int[] s : Run.sizes()) {
            int many = Run.blocks(s[0], s[1]);
            Run.full(s[0], s[1], s[2]).refused("put -1 1", -1).refused("put -1 0", -1).refused("put " + many + " 1", -1)
                    .refused("put min 1", -1).refused("put max 1", -1).refused("put " + (many + 64) + " 1", -1)
                    .due("put " + (many - 1) + " 0", 1);
        }
    }

    @Holds(promise = 7, says = "BAD")
    static void putBad() {
        Run.full(6, 3, 2).refused("put 0 2", -2).refused("put 0 -1", -2).refused("put 2 2", -2).refused("put 2 -1", -2)
                .refused("put 19 min", -2).refused("put 19 max", -2);
    }

    @Holds(promise = 7, says = "NONE: block; BAD")
    static void putRefusalsInOrder() {
        Run.full(6, 3, 2).refused("put 20 2", -1).refused("put -1 -1", -1);
    }

    @Holds(promise = 8, says = "THE DESIGN is SWAPPED by THE ROW: how many BLOCKS it has")
    static void swap() {
        new Run("size 4 2 1", "put b12 1", "put b03 1", "twist 1234 1").due("swap", 2).blocksIn(1, "02 13").due("told 1", 2)
                .does("put b01 1", "turn").due("swap", 3).blocksIn(1, "01 12 03");
        // as many come as go, also of many
        new Run("size 8 2 1", "put b12 1", "put b03 1", "put b56 1", "put b47 1", "twist 1234 1", "twist 5678 1")
                .due("swap", 4).blocksIn(1, "02 13 46 57");
    }

    @Holds(promise = 8, says = "STATE: it may not be")
    static void swapMayNotBe() {
        Run.full(6, 3, 2).refused("swap", -3);
        new Run("put 0 1", "put 19 1").refused("swap", -3).does("count 0 -1").refused("swap", -3)
                .does("count 1 1").refused("swap", -3);
        new Run("size 4 2 1", "put b12 1", "put b03 1", "twist 1234 1", "put b12 0").refused("swap", -3)
                .does("put b12 1", "put b13 1").refused("swap", -3).does("put b13 0").due("swap", 2).refused("swap", -3);
    }

    @Holds(promise = 9, says = "KEPT becomes THE DESIGN: how many BLOCKS")
    static void keep() {
        new Run().due("keep", 0).blocksIn(2, "");
        new Run("put 0 1", "put 19 1").due("keep", 2).blocksIn(2, "012 345").blocksIn(1, "012 345").due("keep", 2)
                .does("put 0 0").blocksIn(2, "012 345").due("keep", 1).blocksIn(2, "345").does("put 19 0").due("keep", 0)
                .blocksIn(2, "");
    }

    @Holds(promise = 10, says = "COUNTS become 1 of BLOCKS in THE DESIGN and not KEPT, -1 of those KEPT and not in it,"
            + " 0 of all others: VOLUME")
    static void differ() {
        new Run("count 0 99", "count 19 -99").due("differ", 0).counts(new int[20]);
        new Run("size 4 2 1", "put 0 1", "put 1 1", "keep", "put 1 0", "put 2 1", "count 0 9", "count 1 9", "count 2 9",
                "count 3 9").due("differ", 1).counts(0, -1, 1, 0, 0, 0).blocksIn(1, "01 12").blocksIn(2, "01 02")
                .due("differ", 1).counts(0, -1, 1, 0, 0, 0);
        for (int[] s : Run.sizes()) {
            int last = Run.blocks(s[0], s[1]) - 1;
            new Run("size " + s[0] + " " + s[1] + " " + s[2], "put " + last + " 1").due("differ", 1)
                    .due("of " + last + " 0", 101).does("keep").due("differ", 0).due("of " + last + " 0", 100)
                    .does("put " + last + " 0").due("differ", 0).due("of " + last + " 0", 99);
        }
    }

    @Holds(promise = 11, says = "Two POINTS change places in all BLOCKS, as they have COUNTS, are in THE DESIGN, are KEPT")
    static void exchange() {
        // blocks 01 02 12 03 13 23; points 1 and 2 change places: 02 01 12 03 23 13
        new Run("size 4 2 1", "count 0 1", "count 1 2", "count 2 3", "count 3 4", "count 4 5", "count 5 6", "put b13 1",
                "keep", "put b13 0", "put b01 1", "put b12 1").due("exchange 1 2", 1).counts(2, 1, 3, 4, 6, 5)
                .blocksIn(1, "02 12").blocksIn(2, "23").due("exchange 2 1", 1).counts(1, 2, 3, 4, 5, 6).blocksIn(1, "01 12")
                .blocksIn(2, "13");
        new Run("size 8 3 2", "count b567 -99", "put b567 1", "keep", "put b567 0", "put b013 1").due("exchange 0 7", 1)
                .due("of b567 0", 100).due("of b056 0", 1).blocksIn(1, "137").blocksIn(2, "056");
        new Run().due("exchange 0 5", 1).counts(new int[20]);
    }

    @Holds(promise = 11, says = "(SEEN, EVENTS, the BOOK stay): 1")
    static void exchangeKeepsWhatIsTold() {
        new Run("see p0 1", "event 3 b012", "book b012 1", "count b012 1").due("looked", -5).due("fits b012 0", 1)
                .due("fits b345 0", 19).due("after 1", 1).due("exchange 0 5", 1).due("counted 0", 1).due("counted 1", 1)
                .due("counted 2", 1).due("looked", 0).due("fits b345 0", 0).due("fits b012 1", 11).does("put b012 1")
                .due("after 1", 0);
    }

    @Holds(promise = 11, says = "NONE: either, one twice")
    static void exchangeRefused() {
        for (int v = 4; v <= 8; v++) {
            Run run = Run.full(v, 3, 2);
            run.refused("exchange 0 0", -1).refused("exchange " + (v - 1) + " " + (v - 1), -1).refused("exchange 0 " + v, -1)
                    .refused("exchange " + v + " 0", -1).refused("exchange -1 0", -1).refused("exchange 0 -1", -1)
                    .refused("exchange -1 -1", -1).refused("exchange " + v + " " + v, -1).refused("exchange min 1", -1)
                    .refused("exchange 1 max", -1).due("exchange " + (v - 1) + " 0", 1);
        }
    }
}
