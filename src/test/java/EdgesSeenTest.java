/** The edges of promises 25 to 28: what is seen, fits, odds and means, here and in the Terms. */
public final class EdgesSeenTest {
    private static final long NO = Long.MIN_VALUE;

    public static void main(String[] args) {
        Edges.run(EdgesSeenTest.class);
    }

    private static void fits(Run run, int block, int many, int least) {
        run.asked("fits " + block + " 0", many).asked("fits " + block + " 1", least);
    }

    private static void fraction(Run run, String call, long above, long below) {
        run.asked(call + " 0", above).asked(call + " 1", below);
    }

    @Holds(says = "SEEN told by hand: a set of 0 to t POINTS, its SUM (-999 .. 999; 4 rows at most)")
    static void seenRows() {
        Run.full(6, 3, 2).does("see -1 0").due("see p 999", 1).due("see p5 -999", 2).refused("see p45 1000", -2)
                .refused("see p45 -1000", -2).refused("see p345 0", -1).due("see p45 0", 3).due("see p45 0", 4)
                .refused("see p45 0", -4).due("counted 0", 4);
        Run.full(6, 3, 1).does("see -1 0").refused("see p01 0", -1).due("see p5 0", 1).due("see p 0", 2);
        Run.full(6, 2, 1).does("see -1 0").refused("see p01 0", -1).due("see p5 0", 1);
    }

    @Holds(says = "FITS of a BLOCK: how many COUNTS -9 .. 9 there are by which, were it its own now, all of SEEN would be so")
    static void fitsOfABlock() {
        for (int sum = -12; sum <= 12; sum++) {
            boolean is = sum >= -9 && sum <= 9;
            fits(new Run("see p01 " + sum), 0, is ? 1 : 0, is ? sum + 10 : 0);
            fits(new Run("size 8 2 1", "count b67 99", "see p7 " + sum), 27, is ? 1 : 0, is ? sum + 10 : 0);
        }
        // what lies beside it counts: 013 has 90
        Run run = new Run("count b013 90", "count b012 -50", "see p01 99");
        fits(run, 0, 1, 19);
        fits(run.does("see -1 0", "see p01 100"), 0, 0, 0);
        fits(run.does("see -1 0", "see p01 81"), 0, 1, 1);
        fits(run.does("see -1 0", "see p01 80"), 0, 0, 0);
        // all of them: the second, third and fourth as well
        run = new Run("see p01 3", "see p 3", "see p0 3", "see p1 3");
        fits(run, 0, 1, 13);
        for (int place = 0; place < 4; place++) {
            run.does("see -1 0");
            String[] sets = {"p01", "p", "p0", "p1"};
            for (int i = 0; i < 4; i++) {
                run.does("see " + sets[i] + " " + (i == place ? 4 : 3));
            }
            fits(run, 0, 0, 0);
        }
    }

    @Holds(says = "(also what doesn't hang on it")
    static void fitsWhatDoesNotHangOnIt() {
        Run run = new Run("see p5 0");
        fits(run, 0, 19, 1);
        fits(run.does("count b345 1"), 0, 0, 0);
        fits(run, 19, 1, 10);
        fits(run.does("see p01 2"), 0, 0, 0);
        fits(run, 19, 0, 0);
        fits(run.does("count b345 0"), 0, 1, 12);
    }

    @Holds(says = "all 19 without SEEN)")
    static void fitsWithoutSeen() {
        for (int[] s : Run.sizes()) {
            int last = Run.blocks(s[0], s[1]) - 1;
            Run run = new Run("size " + s[0] + " " + s[1] + " " + s[2], "count 0 99", "count " + last + " -99");
            fits(run, 0, 19, 1);
            fits(run, last, 19, 1);
        }
        Run run = new Run("see p 5", "see -1 0");
        fits(run, 0, 19, 1);
    }

    @Holds(says = "10 more than the least of these (0: there is none)")
    static void leastFit() {
        fits(new Run(), 19, 19, 1);
        fits(new Run("see p -9"), 19, 1, 1);
        fits(new Run("see p 0"), 19, 1, 10);
        fits(new Run("see p 9"), 19, 1, 19);
        fits(new Run("see p 10"), 19, 0, 0);
        fits(new Run("see p -10"), 19, 0, 0);
        fits(new Run("see p 1", "see p 2"), 19, 0, 0);
    }

    @Holds(says = "ODDS of a set of 0 to k POINTS: of all BLOCKS in which it lies, alike likely, how likely one is in THE DESIGN:"
            + " a fraction in lowest terms")
    static void oddsOfSets() {
        for (int[] s : Run.sizes()) {
            Run run = new Run("size " + s[0] + " " + s[1] + " " + s[2]);
            int many = Run.blocks(s[0], s[1]);
            int most = (1 << s[1]) - 1;
            fraction(run, "odds p", 0, 1);
            fraction(run, "odds " + most, 0, 1);
            run.does("put 0 1");
            fraction(run, "odds p", 1, many);
            fraction(run, "odds " + most, 1, 1);
            for (int block = 1; block < many; block++) {
                run.does("put " + block + " 1");
            }
            fraction(run, "odds p", 1, 1);
            fraction(run, "odds p0", 1, 1);
            run.does("put " + (many - 1) + " 0");
            fraction(run, "odds p", many - 1, many);
        }
        Run run = new Run("put b012 1", "put b013 1", "put b014 1", "put b023 1");
        fraction(run, "odds p", 1, 5);
        fraction(run, "odds p0", 2, 5);
        fraction(run, "odds p01", 3, 4);
        fraction(run, "odds p02", 1, 2);
        fraction(run, "odds p45", 0, 1);
    }

    @Holds(says = "MEAN: VOLUME by how many BLOCKS have a COUNT that isn't 0: a fraction in lowest terms (NO: there are none)")
    static void meanOfCounts() {
        fraction(new Run(), "mean", NO, NO);
        fraction(new Run("count 0 -1"), "mean", 0, 1);
        fraction(new Run("count 0 -1", "count 1 -1", "count 2 -1"), "mean", 0, 1);
        fraction(new Run("count 0 1"), "mean", 1, 1);
        fraction(new Run("count 0 1", "count 1 -1"), "mean", 1, 2);
        fraction(new Run("count 0 4", "count 1 -1"), "mean", 2, 1);
        fraction(new Run("count 0 9", "count 1 -1", "count 2 -1", "count 3 -1", "count 4 6", "count 5 -1"), "mean", 5, 2);
        fraction(new Run("count 0 99", "count 0 0"), "mean", NO, NO);
        Run most = new Run("size 8 3 2");
        for (int block = 0; block < 56; block++) {
            most.does("count " + block + " 99");
        }
        fraction(most, "mean", 99, 1);
        fraction(most.does("turn"), "mean", 0, 1);
    }

    @Holds(promise = 25, says = "What is SEEN comes: how many there are")
    static void see() {
        new Run().due("see p 0", 1).due("see p0 1", 2).due("see p01 2", 3).due("see p01 2", 4).due("counted 0", 4);
    }

    @Holds(promise = 25, says = "(set -1: none then, 0, whatever the rest is)")
    static void seeNone() {
        new Run().due("see -1 0", 0).does("see p 0").due("see -1 1000", 0).due("counted 0", 0).does("see p 0", "see p 1")
                .due("see -1 min", 0).due("see p 0", 1).due("see -1 max", 0).due("see -1 -1000", 0).due("fits 0 0", 19);
        new Run("see p 1", "see p 2", "see p 3", "see p 4").refused("see p 5", -4).due("see -1 0", 0).due("see p 5", 1)
                .due("fits 0 1", 15);
    }

    @Holds(promise = 25, says = "NONE: no set of 0 to t POINTS")
    static void seeNoSet() {
        for (int[] s : Run.sizes()) {
            int beyond = 1 << s[0];
            int most = (1 << s[2]) - 1;
            Run.full(s[0], s[1], s[2]).refused("see " + (2 * most + 1) + " 0", -1).refused("see " + beyond + " 0", -1)
                    .refused("see -2 0", -1).refused("see min 0", -1).refused("see max 0", -1)
                    .refused("see " + (beyond - 1) + " 0", -1).due("see " + (most << s[0] - s[2]) + " 0", 4);
        }
    }

    @Holds(promise = 25, says = "BAD: sum")
    static void seeBad() {
        Run.full(6, 3, 2).refused("see p 1000", -2).refused("see p -1000", -2).refused("see p01 max", -2)
                .refused("see p01 min", -2).due("see p 999", 4).does("see -1 0").due("see p -999", 1);
    }

    @Holds(promise = 25, says = "FULL: 4")
    static void seeFull() {
        Run.full(6, 3, 2).due("see p 0", 4).refused("see p 0", -4).refused("see p01 9", -4);
    }

    @Holds(promise = 25, says = "NONE: no set of 0 to t POINTS; BAD: sum; FULL: 4")
    static void seeRefusalsInOrder() {
        Run.full(6, 3, 2).refused("see p012 1000", -1).does("see p 0").refused("see p012 1000", -1).refused("see p012 0", -1)
                .refused("see p01 1000", -2).refused("see p01 0", -4);
    }

    @Holds(promise = 26, says = "FITS: what 0 how many, 1 10 more than the least (0)")
    static void fitsWhat() {
        fits(new Run(), 0, 19, 1);
        fits(new Run("see p01 -9"), 0, 1, 1);
        fits(new Run("see p01 -10"), 0, 0, 0);
    }

    @Holds(promise = 26, says = "NONE: block, what")
    static void fitsNone() {
        for (int[] s : Run.sizes()) {
            int many = Run.blocks(s[0], s[1]);
            Run.full(s[0], s[1], s[2]).refused("fits -1 0", -1).refused("fits " + many + " 0", -1).refused("fits min 1", -1)
                    .refused("fits max 1", -1).refused("fits 0 2", -1).refused("fits 0 -1", -1).refused("fits 0 min", -1)
                    .refused("fits 0 max", -1).refused("fits " + many + " 2", -1);
        }
    }

    @Holds(promise = 26, says = "(What is SEEN of a set that has POINTS that are no more, or more than t, is not so.)")
    static void fitsOfSetsThatAreNoMore() {
        Run run = new Run("see p5 0", "size 5 3 2");
        fits(run, 0, 0, 0);
        fits(run, 9, 0, 0);
        fits(run.does("size 6 3 1"), 0, 19, 1);
        fits(new Run("see p01 0", "size 6 3 1"), 0, 0, 0);
        fits(new Run("see p01 0", "size 6 3 1"), 19, 0, 0);
        fits(new Run("see p01 0", "size 6 2 1"), 0, 0, 0);
        fits(new Run("see p01 0", "size 6 3 1", "size 4 3 2"), 0, 1, 10);
        fits(new Run("see p 0", "size 4 2 1"), 0, 1, 10);
        fits(new Run("see p3 0", "size 4 2 1"), 0, 19, 1);
        fits(new Run("see p4 0", "size 4 2 1"), 0, 0, 0);
        fits(new Run("see p0 0", "see p4 0", "size 4 2 1"), 0, 0, 0);
    }

    @Holds(promise = 27, says = "ODDS; part 0 above, 1 below the line")
    static void odds() {
        Run run = new Run("put 0 1", "put 1 1");
        fraction(run, "odds p", 1, 10);
        fraction(run, "odds p01", 1, 2);
        fraction(run, "odds p012", 1, 1);
        fraction(run, "odds p345", 0, 1);
    }

    @Holds(promise = 27, says = "NO: no set of 0 to k POINTS, part")
    static void oddsNo() {
        for (int[] s : Run.sizes()) {
            int beyond = 1 << s[0];
            int most = (1 << s[1]) - 1;
            Run run = Run.full(s[0], s[1], s[2]);
            for (int part = 0; part <= 1; part++) {
                run.refused("odds " + (2 * most + 1) + " " + part, NO).refused("odds " + beyond + " " + part, NO)
                        .refused("odds -1 " + part, NO).refused("odds min " + part, NO).refused("odds max " + part, NO);
            }
            run.refused("odds p 2", NO).refused("odds p -1", NO).refused("odds p min", NO).refused("odds p max", NO)
                    .refused("odds -1 2", NO).due("odds " + (most << s[0] - s[1]) + " 0", 1);
        }
    }

    @Holds(promise = 28, says = "MEAN; part likewise")
    static void mean() {
        fraction(new Run("count 0 3", "count 1 -3"), "mean", 3, 2);
        fraction(new Run("twist 123456 9"), "mean", 9, 2);
    }

    @Holds(promise = 28, says = "NO: part, too")
    static void meanNo() {
        Run.full(6, 3, 2).refused("mean 2", NO).refused("mean -1", NO).refused("mean min", NO).refused("mean max", NO)
                .due("mean 0", 5).due("mean 1", 3);
        new Run().refused("mean 0", NO).refused("mean 1", NO).refused("mean 2", NO);
    }
}
