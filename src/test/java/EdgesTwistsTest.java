/** The edges of promises 22 to 24, and of OPEN TWISTS and PARTED in the Terms. */
public final class EdgesTwistsTest {
    public static void main(String[] args) {
        Edges.run(EdgesTwistsTest.class);
    }

    private static Run design(int v, int k, int t, String... blocks) {
        Run run = new Run("size " + v + " " + k + " " + t);
        for (String block : blocks) {
            run.does("put b" + block + " 1");
        }
        return run;
    }

    private static void open(Run run, int many, int first, int times) {
        run.asked("open 0", many).asked("open 1", first).asked("open 2", times);
    }

    @Holds(says = "OPEN TWISTS: TWISTS in which of each pair the one POINT is less than the other one")
    static void pairsRise() {
        // 2134 by -1 would do the same as 1234 by 1
        open(design(4, 2, 1, "12", "03"), 2, 1234, 2);
        open(design(6, 3, 2, "024", "134", "125", "035"), 1, 123456, 0);
    }

    @Holds(says = "the first POINTS of the pairs rise")
    static void firstPointsRise() {
        // 3412 would do the same as 1234
        open(design(4, 2, 1, "02", "13", "23"), 1, 1234, 0);
        open(design(8, 2, 1, "46", "57", "67"), 1, 5678, 0);
    }

    @Holds(says = "and the POINTS behind the pairs rise")
    static void pointsBehindRise() {
        open(design(5, 3, 1, "124", "034"), 2, 12345, 2);
        open(design(5, 3, 1, "013", "024"), 2, 23451, 0);
        // points behind may be less or more than those of the pairs
        open(design(8, 3, 1, "056", "047", "067"), 1, 56781, 2);
        open(design(8, 3, 1, "027", "137", "017"), 1, 12348, 0);
    }

    @Holds(says = "each with N -1 or 1, by N times whose SIGNS as counts (all other BLOCKS 0; THE ROW does not matter)"
            + " THE DESIGN may be SWAPPED")
    static void openByEither() {
        open(design(4, 2, 1, "02", "13", "01"), 1, 1234, 0);
        open(design(4, 2, 1, "12", "03", "01"), 1, 1234, 2);
        open(design(4, 2, 1, "02"), 0, -5, -5);
        open(design(4, 2, 1, "02", "13", "12"), 1, 1423, 2);
        open(design(4, 2, 1, "02", "13", "12", "03"), 2, 1324, 2);
        open(design(4, 2, 1, "02", "13", "12", "03", "01"), 0, -5, -5);
        open(design(4, 2, 1, "02", "13").does("count b01 99", "count b02 99", "keep"), 2, 1234, 0);
        open(design(4, 2, 1, "02", "13").does("twist 1234 1"), 2, 1234, 0);
        String[] go = {"024", "134", "125", "035"};
        for (String missing : go) {
            open(design(6, 3, 2, go).does("put b" + missing + " 0"), 0, -5, -5);
        }
        String[] come = {"124", "034", "025", "135"};
        for (String there : come) {
            open(design(6, 3, 2, go).does("put b" + there + " 1"), 0, -5, -5);
        }
    }

    @Holds(says = "in the order of their numbers, N -1 ahead of 1")
    static void openOrder() {
        open(design(4, 2, 1, "03", "12", "01"), 1, 1234, 2);
        open(design(4, 2, 1, "01", "23"), 2, 1324, 0);
        open(design(4, 2, 1, "02", "13"), 2, 1234, 0);
        open(design(5, 2, 1, "34", "12"), 2, 2435, 0);
        open(design(8, 2, 1, "67", "45", "01"), 6, 1526, 0);
    }

    @Holds(says = "PARTED into m (2 .. 6): all BLOCKS into m DESIGNS, each BLOCK in just one, all of one INDEX")
    static void partedOfOneIndex() {
        new Run("size 4 2 1").refused("parted 1", -2).asked("parted 2", 0).asked("parted 3", 1).asked("parted 4", 0)
                .asked("parted 5", 0).asked("parted 6", 0).refused("parted 7", -2);
        new Run("size 6 2 1").asked("parted 2", 0).asked("parted 5", 6).asked("parted 6", 0);
        new Run("size 4 3 1").asked("parted 2", 0).asked("parted 3", 0);
        new Run("size 4 3 2").asked("parted 2", 0);
        new Run("size 5 3 2").asked("parted 3", 0);
        new Run().asked("parted 2", 6).asked("parted 3", 0).asked("parted 4", 0).asked("parted 5", 0).asked("parted 6", 0);
    }

    @Holds(says = "ways are alike that differ only by which DESIGN is which")
    static void waysAlike() {
        // one way, not 3 * 2; into two pentagons there are 6 ways, not 12
        new Run("size 4 2 1").asked("parted 3", 1);
        new Run("size 5 2 1").asked("parted 2", 6);
    }

    @Holds(says = "In a way DESIGNS are numbered from 0 by their least BLOCKS")
    static void designsNumbered() {
        new Run("size 4 2 1").asked("part 3 0", 0).asked("part 3 1", 1).asked("part 3 2", 2).asked("part 3 3", 2)
                .asked("part 3 4", 1).asked("part 3 5", 0);
    }

    @Holds(says = "The first way: that in which BLOCK 0's, 1's, .. DESIGNS, one behind the other, are the least row")
    static void firstWay() {
        firstWay("size 4 2 1", 3, "012210");
        firstWay("size 5 2 1", 2, "0011011100");
        firstWay("size 6 2 1", 5, "012234340141302");
        firstWay("size 6 3 2", 2, "00111011001100100011");
    }

    private static void firstWay(String size, int m, String row) {
        Run run = new Run(size);
        for (int block = 0; block < row.length(); block++) {
            run.due("part " + m + " " + block, row.charAt(block) - '0');
        }
        run.refused("part " + m + " " + row.length(), -1);
    }

    @Holds(says = "(It is looked for, if there are no more than 20 BLOCKS")
    static void lookedForUpToTwenty() {
        new Run().asked("parted 2", 6).asked("part 2 0", 0);
        new Run("size 6 2 1").asked("parted 5", 6).asked("part 5 0", 0);
        Run.full(7, 2, 1).refused("parted 2", -3).refused("part 2 0", -3);
        Run.full(8, 2, 1).refused("parted 2", -3).refused("part 2 27", -3);
        Run.full(7, 3, 2).refused("parted 5", -3).refused("part 5 34", -3);
        Run.full(8, 3, 2).refused("parted 6", -3).refused("part 6 55", -3);
    }

    @Holds(says = "and, if t isn't k - 1, no more than 10.)")
    static void lookedForUpToTen() {
        new Run("size 4 3 1").asked("parted 2", 0).asked("part 2 0", -5);
        new Run("size 5 3 1").asked("parted 2", 6).asked("part 2 0", 0);
        Run.full(6, 3, 1).refused("parted 2", -3).refused("part 2 0", -3);
        Run.full(7, 3, 1).refused("parted 2", -3).refused("part 2 0", -3);
        Run.full(8, 3, 1).refused("parted 2", -3).refused("part 2 0", -3);
        new Run("size 6 2 1").asked("parted 2", 0);
    }

    @Holds(promise = 22, says = "OPEN TWISTS: what 0 how many, 1 the first (-5: there is none), 2 N of it, and 1 (-5)")
    static void open() {
        for (int[] s : Run.sizes()) {
            Run run = new Run("size " + s[0] + " " + s[1] + " " + s[2]);
            open(run, 0, -5, -5);
            for (int block = 0; block < Run.blocks(s[0], s[1]); block++) {
                run.does("put " + block + " 1");
            }
            open(run, 0, -5, -5);
        }
        // point 0 is in both, so it stands behind the pairs 1 3 and 2 4, or 1 4 and 2 3
        open(design(5, 3, 1, "012", "034"), 2, 24351, 0);
        open(design(5, 2, 1, "01", "34"), 2, 1425, 0);
        open(design(4, 2, 1, "03", "12"), 2, 1234, 2);
    }

    @Holds(promise = 22, says = "OPEN TWISTS: what 0 how many, 1 the first (-5: there is none), 2 N of it, and 1 (-5)")
    static void openAgain() {
        design(4, 2, 1, "02", "13").due("open 0", 2).due("open 0", 2).due("open 1", 1234).due("open 2", 0).due("open 0", 2)
                .does("put b02 0").due("open 0", 0).due("open 1", -5).due("open 2", -5)
                .does("put b13 0", "put b12 1", "put b03 1").due("open 2", 2).due("open 1", 1234).due("open 0", 2)
                .does("size 5 3 1").due("open 0", 0).due("open 1", -5);
    }

    @Holds(promise = 22, says = "NONE")
    static void openNone() {
        Run.full(6, 3, 2).refused("open 3", -1).refused("open -1", -1).refused("open min", -1).refused("open max", -1);
        design(4, 2, 1, "02", "13").refused("open 3", -1).refused("open -1", -1).asked("open 2", 0);
    }

    @Holds(promise = 23, says = "PARTED into m: in how many ways")
    static void parted() {
        for (int[] s : Run.sizes()) {
            Run run = Run.full(s[0], s[1], s[2]);
            Model model = new Model();
            model.size(s[0], s[1], s[2]);
            for (int m = 2; m <= 6; m++) {
                run.asked("parted " + m, model.parted(m));
            }
        }
    }

    @Holds(promise = 23, says = "BAD: m")
    static void partedBad() {
        Run.full(6, 3, 2).refused("parted 1", -2).refused("parted 0", -2).refused("parted -2", -2).refused("parted 7", -2)
                .refused("parted min", -2).refused("parted max", -2).asked("parted 2", 6).asked("parted 6", 0);
    }

    @Holds(promise = 23, says = "STATE: it isn't looked for")
    static void partedState() {
        Run.full(8, 3, 1).refused("parted 2", -3).refused("parted 6", -3).does("size 5 3 1").asked("parted 2", 6)
                .does("size 7 3 2").refused("parted 2", -3);
    }

    @Holds(promise = 23, says = "BAD: m; STATE: it isn't looked for")
    static void partedRefusalsInOrder() {
        Run.full(7, 3, 2).refused("parted 1", -2).refused("parted 7", -2).refused("parted 2", -3);
    }

    @Holds(promise = 24, says = "In the first way the DESIGN that a BLOCK is in")
    static void part() {
        new Run().asked("part 2 0", 0).asked("part 2 19", 1).does("parted 5", "size 4 2 1", "parted 3", "size 6 3 2")
                .asked("part 2 19", 1);
    }

    @Holds(promise = 24, says = "-5: there is no way")
    static void partNoWay() {
        new Run().asked("part 3 0", -5).asked("part 4 19", -5).asked("part 6 0", -5).asked("part 2 0", 0).asked("part 3 0", -5);
        new Run("size 4 3 2").asked("part 2 0", -5).asked("part 2 3", -5);
    }

    @Holds(promise = 24, says = "NONE: block")
    static void partNone() {
        for (int[] s : Run.sizes()) {
            int many = Run.blocks(s[0], s[1]);
            Run.full(s[0], s[1], s[2]).refused("part 2 -1", -1).refused("part 2 " + many, -1).refused("part 2 min", -1)
                    .refused("part 2 max", -1);
        }
    }

    @Holds(promise = 24, says = "BAD: m")
    static void partBad() {
        Run.full(6, 3, 2).refused("part 1 0", -2).refused("part 7 0", -2).refused("part min 19", -2).refused("part max 19", -2);
    }

    @Holds(promise = 24, says = "STATE: it isn't looked for")
    static void partState() {
        Run.full(6, 3, 1).refused("part 2 0", -3).refused("part 6 19", -3);
    }

    @Holds(promise = 24, says = "NONE: block; BAD: m; STATE: it isn't looked for")
    static void partRefusalsInOrder() {
        Run.full(8, 3, 2).refused("part 7 56", -1).refused("part 2 56", -1).refused("part 7 55", -2).refused("part 2 55", -3);
        Run.full(6, 3, 2).refused("part 1 20", -1);
    }
}
