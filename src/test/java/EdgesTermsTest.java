/** The edges that the document's Terms name for points, blocks, rows, designs and twists. */
public final class EdgesTermsTest {
    public static void main(String[] args) {
        Edges.run(EdgesTermsTest.class);
    }

    @Holds(says = "POINTS 0 .. v - 1 (v 4 .. 8; 6 at first)")
    static void points() {
        new Run().due("told 9", 632).refused("size 3 3 2", -2).refused("size 9 3 2", -2).due("told 9", 632);
        new Run().due("size 4 3 2", 632).due("size 8 3 2", 432).due("told 9", 832);
        for (int v = 4; v <= 8; v++) {
            Run.full(v, 2, 1).refused("exchange 0 " + v, -1).refused("exchange " + v + " 0", -1)
                    .refused("exchange -1 0", -1).due("exchange 0 " + (v - 1), 1);
        }
    }

    @Holds(says = "k (2, 3; 3 at first)")
    static void pointsOfABlock() {
        Run.full(6, 3, 2).due("block 0", 7).refused("size 6 1 1", -2).refused("size 6 4 1", -2).refused("size 6 4 3", -2);
        new Run().due("size 6 2 1", 632).due("block 0", 3).due("size 6 3 1", 621).due("block 0", 7);
    }

    @Holds(says = "t (1 .. k - 1; 2 at first)")
    static void level() {
        Run.full(6, 3, 2).due("told 8", 4).refused("size 6 2 0", -2).refused("size 6 2 2", -2).refused("size 6 3 0", -2)
                .refused("size 6 3 3", -2).refused("size 6 3 -1", -2);
        new Run().due("size 6 2 1", 632).due("size 6 3 1", 621).due("size 6 3 2", 631);
    }

    @Holds(says = "Sets of POINTS are told as bits (POINT p: bit p)")
    static void setsAsBits() {
        for (int v = 4; v <= 8; v++) {
            Run run = new Run("size " + v + " 2 1");
            for (int p = 1; p < v; p++) {
                run.due("number " + (1 | 1 << p), p * (p - 1) / 2).due("block " + p * (p - 1) / 2, 1 | 1 << p);
            }
            run.asked("sum " + (1 << v - 1), 10000).refused("sum " + (1 << v), -1).refused("number " + (1 << v), -1);
        }
    }

    @Holds(says = "BLOCKS: all sets of k POINTS, numbered from 0, the least as bits first")
    static void blocks() {
        for (int[] s : Run.sizes()) {
            Run run = new Run("size " + s[0] + " " + s[1] + " " + s[2]);
            int many = 0;
            for (int set = 0; set < 1 << s[0]; set++) {
                if (Integer.bitCount(set) == s[1]) {
                    run.due("block " + many, set).due("number " + set, many);
                    many++;
                }
            }
            run.due("told 0", many).refused("block " + many, -1).refused("block -1", -1);
        }
        Run.full(6, 3, 2).asked("block 0", 7).asked("block 19", 56);
    }

    @Holds(says = "THE ROW: a COUNT for each BLOCK (-99 .. 99; 0 at first)")
    static void row() {
        new Run().counts(new int[20]);
        for (int[] s : Run.sizes()) {
            int last = Run.blocks(s[0], s[1]) - 1;
            Run.full(s[0], s[1], s[2]).due("count " + last + " 99", 93).due("count " + last + " -99", 199)
                    .due("of " + last + " 0", 1).refused("count " + last + " 100", -2)
                    .refused("count " + last + " -100", -2).due("count 0 0", 105).due("of 0 0", 100);
        }
    }

    @Holds(says = "THE DESIGN: some of the BLOCKS (none at first)")
    static void design() {
        new Run().due("told 5", 0).blocksIn(1, "");
        for (int[] s : Run.sizes()) {
            Run run = new Run("size " + s[0] + " " + s[1] + " " + s[2]);
            int many = Run.blocks(s[0], s[1]);
            for (int block = 0; block < many; block++) {
                run.due("put " + block + " 1", 0);
            }
            run.due("told 5", many).refused("put " + many + " 1", -1).due("put " + (many - 1) + " 0", 1).due("told 5", many - 1);
        }
    }

    @Holds(says = "KEPT: some of them, too (none at first)")
    static void kept() {
        new Run().due("told 7", 0).blocksIn(2, "");
        for (int[] s : Run.sizes()) {
            Run run = new Run("size " + s[0] + " " + s[1] + " " + s[2]);
            int many = Run.blocks(s[0], s[1]);
            for (int block = 0; block < many; block++) {
                run.does("put " + block + " 1");
            }
            run.due("keep", many).due("told 7", many).due("of " + (many - 1) + " 2", 1).does("put 0 0").due("told 7", many)
                    .due("keep", many - 1).due("of 0 2", 0);
        }
    }

    @Holds(says = "SUM of a set of POINTS (0 to k of them): COUNTS of all BLOCKS in which it lies, together")
    static void sum() {
        Run run = new Run("size 4 2 1", "count b01 1", "count b02 2", "count b12 3", "count b03 4", "count b13 5", "count b23 6");
        run.asked("sum p0", 10007).asked("sum p1", 10009).asked("sum p2", 10011).asked("sum p3", 10015);
        run.asked("sum p01", 10001).asked("sum p23", 10006).refused("sum p012", -1).refused("sum p0123", -1);
        run.does("size 4 3 1", "count b012 1", "count b013 2", "count b023 3", "count b123 4");
        run.asked("sum p0", 10006).asked("sum p3", 10009).asked("sum p01", 10003).asked("sum p23", 10007);
        run.asked("sum p012", 10001).asked("sum p123", 10004).refused("sum p0123", -1);
    }

    @Holds(says = "(of the empty set: of all)")
    static void sumOfEmptySet() {
        for (int[] s : Run.sizes()) {
            int many = Run.blocks(s[0], s[1]);
            Run most = new Run("size " + s[0] + " " + s[1] + " " + s[2]);
            Run least = new Run("size " + s[0] + " " + s[1] + " " + s[2]);
            most.due("sum p", 10000);
            for (int block = 0; block < many; block++) {
                most.does("count " + block + " 99");
                least.does("count " + block + " -99");
            }
            most.asked("sum p", 10000 + 99 * many);
            least.asked("sum p", 10000 - 99 * many);
        }
    }

    @Holds(says = "THE ROW is a TRADE, if SUM of each set of t POINTS is 0")
    static void trade() {
        new Run("twist 123456 1").asked("told 4", 1).due("count b024 2", 101).asked("told 4", 0);
        // all sums of points are 0, but not those of pairs
        new Run("size 6 3 1", "twist 12345 1").asked("told 4", 1);
        new Run("count b024 1", "count b124 -1", "count b034 -1", "count b134 1").due("sum p4", 10000).due("told 4", 0);
        // the sum of the last point alone is not 0; then that of the first alone
        new Run("size 4 2 1", "count b01 -1", "count b02 -1", "count b12 1", "count b03 2").due("sum p0", 10000)
                .due("sum p1", 10000).due("sum p2", 10000).due("sum p3", 10002).due("told 4", 0);
        new Run("size 4 2 1", "count b23 -1", "count b13 -1", "count b12 1", "count b03 2").due("sum p1", 10000)
                .due("sum p2", 10000).due("sum p3", 10000).due("sum p0", 10002).due("told 4", 0);
    }

    @Holds(says = "(all COUNTS 0, too)")
    static void tradeOfNone() {
        for (int[] s : Run.sizes()) {
            new Run("size " + s[0] + " " + s[1] + " " + s[2]).asked("told 4", 1).does("count 0 1").due("told 4", 0)
                    .does("count 0 -1").due("told 4", 0).does("count 0 0").due("told 4", 1);
        }
    }

    @Holds(says = "It is PLAIN, if each COUNT is -1, 0 or 1")
    static void plain() {
        int[] counts = {-99, -2, -1, 0, 1, 2, 99};
        for (int[] s : Run.sizes()) {
            int last = Run.blocks(s[0], s[1]) - 1;
            for (int block = 0; block <= last; block += last) {
                Run run = new Run("size " + s[0] + " " + s[1] + " " + s[2]);
                run.due("told 3", 1);
                for (int count : counts) {
                    run.does("count " + block + " " + count).due("told 3", count >= -1 && count <= 1 ? 1 : 0);
                }
            }
        }
        Run.full(6, 3, 2).asked("told 3", 0);
    }

    @Holds(says = "VOLUME: all COUNTS above 0, together")
    static void volume() {
        new Run().due("told 1", 0).does("count 0 -1").due("told 1", 0).does("count 0 0").due("told 1", 0).does("count 0 1")
                .due("told 1", 1).does("count 19 99").due("told 1", 100).does("count 18 -99").asked("told 1", 100);
    }

    @Holds(says = "FOUNDATION: POINTS (bits) of all BLOCKS whose COUNT isn't 0")
    static void foundation() {
        new Run().due("told 2", 0).does("count b345 -1").due("told 2", 56).does("count b345 0").due("told 2", 0)
                .does("count b012 1").due("told 2", 7).does("count b013 99").due("told 2", 15).does("put b345 1")
                .asked("told 2", 15).does("count b345 2").asked("told 2", 63);
        new Run("size 8 2 1", "count b67 1").due("told 2", 192);
    }

    @Holds(says = "INDEX of THE DESIGN: in how many of its BLOCKS each set of t POINTS lies, if that is as many for each"
            + " (else it has none)")
    static void index() {
        for (int[] s : Run.sizes()) {
            Run run = new Run("size " + s[0] + " " + s[1] + " " + s[2]);
            int many = Run.blocks(s[0], s[1]);
            run.due("told 6", 0);
            for (int block = 0; block < many; block++) {
                run.does("put " + block + " 1");
            }
            int through = s[1] - s[2] == 1 ? s[0] - s[2] : (s[0] - 1) * (s[0] - 2) / 2;
            run.asked("told 6", through).does("put 0 0").asked("told 6", -5).does("put 0 1", "put " + (many - 1) + " 0")
                    .asked("told 6", -5);
        }
        // the last point, then the first one, then one between lies otherwise
        new Run("size 4 2 1", "put b03 1", "put b13 1", "put b23 1").due("told 6", -5);
        new Run("size 4 2 1", "put b01 1", "put b02 1", "put b03 1").due("told 6", -5);
        new Run("size 4 2 1", "put b01 1", "put b12 1", "put b13 1").due("told 6", -5);
        new Run("size 4 2 1", "put b01 1", "put b23 1").due("told 6", 1).does("put b02 1", "put b13 1").due("told 6", 2);
    }

    // Digits from v downwards: as many as a twist has.
    private static String digits(int v, int many) {
        StringBuilder digits = new StringBuilder();
        for (int i = 0; i < many; i++) {
            digits.append(v - i);
        }
        return digits.toString();
    }

    @Holds(says = "A TWIST is a number of t + k + 1 digits")
    static void digitsOfATwist() {
        for (int[] s : Run.sizes()) {
            int many = s[1] + s[2] + 1;
            for (int length = 1; length <= Math.min(s[0], 8); length++) {
                Run run = new Run("size " + s[0] + " " + s[1] + " " + s[2]);
                if (length == many) {
                    run.due("twist " + digits(s[0], length) + " 1", 1 << s[2]);
                } else {
                    run.refused("twist " + digits(s[0], length) + " 1", -2);
                }
            }
        }
        Run.full(6, 3, 2).refused("twist 0 1", -2).refused("twist -1 1", -2).refused("twist -123456 1", -2)
                .refused("twist 12345 1", -2).refused("twist 1234561 1", -2).refused("twist 1123456 1", -2)
                .refused("twist max 1", -2).refused("twist min 1", -2);
        Run.full(4, 3, 2).refused("twist 123412 1", -2).refused("twist 1234 1", -2);
        Run.full(5, 3, 2).refused("twist 123451 1", -2).refused("twist 12345 1", -2);
        Run.full(4, 3, 1).refused("twist 12341 1", -2).refused("twist 1234 1", -2);
    }

    @Holds(says = "each 1 more than a POINT")
    static void digitsArePoints() {
        for (int[] s : Run.sizes()) {
            int many = s[1] + s[2] + 1;
            if (many > s[0]) {
                continue;
            }
            Run run = Run.full(s[0], s[1], s[2]);
            for (int place = 0; place < many; place++) {
                StringBuilder twist = new StringBuilder(digits(s[0], many));
                twist.setCharAt(place, (char) ('0' + s[0] + 1));
                run.refused("twist " + twist + " 1", -2);
                twist.setCharAt(place, '0');
                run.refused("twist " + twist + " 1", -2);
            }
            run.due("event 0 " + digits(s[0], many), 4).due("event 0 " + digits(many, many), 5);
        }
    }

    @Holds(says = "no two alike")
    static void noDigitsAlike() {
        for (int[] s : Run.sizes()) {
            int many = s[1] + s[2] + 1;
            Run run = Run.full(s[0], s[1], s[2]);
            for (int place = 1; place < many && many <= s[0]; place++) {
                for (int other = 0; other < place; other++) {
                    StringBuilder twist = new StringBuilder(digits(s[0], many));
                    twist.setCharAt(place, twist.charAt(other));
                    run.due("twist " + twist + " 1", -2);
                }
            }
            run.refused("twist 111111 1", -2).refused("twist 1111 1", -2).refused("twist 11111 1", -2);
        }
    }

    @Holds(says = "from the highest on t + 1 pairs (of each pair the one POINT, then the other one),"
            + " and then k - t - 1 POINTS that are in all its BLOCKS")
    static void pairs() {
        new Run("size 5 3 1", "twist 12345 1").writes("+024-124-034+134");
        new Run("size 5 3 1", "twist 51234 1").writes("-013+023+134-234");
        new Run("size 4 2 1", "twist 1234 1").writes("+02-12-03+13");
        new Run("size 4 2 1", "twist 2134 1").writes("-02+12+03-13");
        new Run("size 4 2 1", "twist 1243 1").writes("-02+12+03-13");
        new Run("twist 123456 1").writes("+024-124-034+134-025+125+035-135");
        new Run("size 8 3 2", "twist 876543 1").writes("-246+346+256-356+247-347-257+357");
    }

    @Holds(says = "Its BLOCKS: of each pair one POINT, in all ways, and those")
    static void blocksOfATwist() {
        for (int[] s : Run.sizes()) {
            int many = s[1] + s[2] + 1;
            if (many <= s[0]) {
                new Run("size " + s[0] + " " + s[1] + " " + s[2], "twist " + digits(s[0], many) + " 1")
                        .due("mean 1", 2).due("told 1", 1 << s[2]).due("clear", 2 << s[2]);
            }
        }
    }

    @Holds(says = "SIGN of such a BLOCK: 1, if it has the other one of an even number of pairs, else -1")
    static void signs() {
        Run run = new Run("twist 123456 3");
        run.due("of b024 0", 103).due("of b124 0", 97).due("of b034 0", 97).due("of b025 0", 97);
        run.due("of b134 0", 103).due("of b125 0", 103).due("of b035 0", 103).due("of b135 0", 97);
        run = new Run("size 4 2 1", "twist 4231 2");
        run.due("of b23 0", 102).due("of b12 0", 98).due("of b03 0", 98).due("of b01 0", 102);
    }

    @Holds(says = "THE DESIGN may be SWAPPED by a row of counts that is a PLAIN TRADE")
    static void swappedByPlainTrade() {
        Run design = new Run("size 4 2 1", "put b12 1", "put b03 1", "twist 1234 2");
        design.refused("swap", -3).does("twist 1234 -1").due("swap", 2);
        // plain, but one block too few or too many for a trade
        new Run("size 4 2 1", "put b12 1", "put b03 1", "twist 1234 1", "count b02 0").refused("swap", -3);
        new Run("size 4 2 1", "put b12 1", "put b03 1", "twist 1234 1", "count b03 0").refused("swap", -3);
        new Run("size 4 2 1", "put b12 1", "put b03 1", "twist 1234 1", "count b23 1").refused("swap", -3);
        // a trade of points, none of pairs
        new Run("put b124 1", "put b034 1", "count b024 1", "count b124 -1", "count b034 -1", "count b134 1").refused("swap", -3);
        new Run("size 6 3 1", "put b124 1", "put b034 1", "count b024 1", "count b124 -1", "count b034 -1",
                "count b134 1").due("swap", 2);
    }

    @Holds(says = "not all 0")
    static void notSwappedByNone() {
        new Run().refused("swap", -3);
        for (int[] s : Run.sizes()) {
            Run.full(s[0], s[1], s[2]).does("clear").refused("swap", -3);
        }
    }

    @Holds(says = "if all BLOCKS whose count is -1 are in it, and none whose count is 1")
    static void swappedBlocks() {
        String[] go = {"b124", "b034", "b025", "b135"};
        String[] come = {"b024", "b134", "b125", "b035"};
        Run right = new Run("twist 123456 1", "put b012 1", "put b124 1", "put b034 1", "put b025 1", "put b135 1");
        for (String block : go) {
            right.does("put " + block + " 0").refused("swap", -3).does("put " + block + " 1");
        }
        for (String block : come) {
            right.does("put " + block + " 1").refused("swap", -3).does("put " + block + " 0");
        }
        right.due("swap", 5);
    }

    @Holds(says = "if all BLOCKS whose count is -1 are in it, and none whose count is 1: these go from it, those come")
    static void swappedFirstAndLastBlock() {
        // -012+125+026-256+017-157-067+567, and the other way round
        String[] minus = {"b012", "b256", "b157", "b067"};
        String[] plus = {"b125", "b026", "b017", "b567"};
        for (int times = -1; times <= 1; times += 2) {
            Run run = new Run("size 8 3 2", "twist 162738 " + times);
            for (String block : times < 0 ? minus : plus) {
                run.refused("swap", -3).does("put " + block + " 1");
            }
            for (String block : times < 0 ? plus : minus) {
                run.does("put " + block + " 1").refused("swap", -3).does("put " + block + " 0");
            }
            run.due("swap", 4).blocksIn(1, times < 0 ? "125 026 017 567" : "012 256 157 067");
        }
    }

    @Holds(says = "these go from it, those come")
    static void swappedBlocksGoAndCome() {
        new Run("twist 123456 1", "put b012 1", "put b124 1", "put b034 1", "put b025 1", "put b135 1", "put b345 1", "keep")
                .due("swap", 6).blocksIn(1, "012 024 134 125 035 345").blocksIn(2, "012 124 034 025 135 345")
                .writes("+024-124-034+134-025+125+035-135").refused("swap", -3);
    }

    @Holds(says = "All that follows is asked, and changes nothing")
    static void askedChangesNothing() {
        Run run = Run.full(6, 3, 2).does("clear", "twist 123456 1", "put b124 1", "put b034 1", "put b025 1", "put b135 1", "put 2 0");
        run.asked("amiss", -5).asked("cover p4", 3).asked("told 8", 4).asked("open 0", 1).asked("open 1", 123456)
                .asked("open 2", 2).asked("parted 2", 6).asked("part 2 19", 1).asked("written 0", '+').asked("fits 0 0", 0)
                .asked("odds p4 0", 3).asked("mean 0", 1).asked("after 0", 4).asked("looked", 0).asked("judge 0 0", 0);
    }

    @Holds(says = "Answers: NONE (-1) no such number, no such set of POINTS; BAD (-2) a number is not as told;"
            + " STATE (-3) as told; FULL (-4); the first that a call's words name")
    static void answers() {
        Check.due("NONE", TradedDesigns.NONE, -1);
        Check.due("BAD", TradedDesigns.BAD, -2);
        Check.due("STATE", TradedDesigns.STATE, -3);
        Check.due("FULL", TradedDesigns.FULL, -4);
        Check.due("NO", TradedDesigns.NO, Long.MIN_VALUE);
        Run.full(6, 3, 2).refused("count 20 100", -1).refused("put 20 2", -1).refused("part 7 20", -1).refused("see 7 1000", -1)
                .refused("book 20 100", -1).refused("tape 6 5 61", -1).refused("shift 6 -1 5 -1 -1", -1);
        Run.full(7, 3, 2).refused("part 7 0", -2).refused("parted 7", -2).refused("part 2 0", -3).refused("parted 2", -3);
    }

    @Holds(says = "What is answered so changes nothing; what is asked changes nothing")
    static void refusedChangesNothing() {
        for (int[] s : Run.sizes()) {
            int many = Run.blocks(s[0], s[1]);
            Run run = Run.full(s[0], s[1], s[2]).does("count 1 99");
            run.refused("size 9 2 1", -2).refused("count " + many + " 0", -1).refused("count 0 100", -2)
                    .refused("twist 0 1", -2).refused("put " + many + " 1", -1).refused("put 0 2", -2).refused("swap", -3)
                    .refused("exchange 0 0", -1).refused("feed 128", -2).refused("told 10", -1).refused("open 3", -1)
                    .refused("see " + (1 << s[0]) + " 0", -1).refused("see 0 1000", -2).refused("fits 0 2", -1)
                    .refused("event 5 0", -1).refused("event 1 1", -2).refused("after 3", -1).refused("book " + many + " 0", -1)
                    .refused("book 0 100", -2).refused("judge 6 0", -1).refused("judge 1 0", -12).refused("counted 4", -2)
                    .refused("tape 6 0 0", -1).refused("tape 0 5 0", -2).refused("tape 0 0 -1", -14).refused("item 6 0 0", -1)
                    .refused("item 5 0 0", -11).refused("item 0 5 1", -13).refused("shift 0 0 6 0 0", -1)
                    .refused("shift 0 0 5 0 0", -11).refused("shift 0 0 1 0 1", -12).refused("shift 0 0 0 1 5", -13);
        }
    }
}
