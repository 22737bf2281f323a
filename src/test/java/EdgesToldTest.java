/** The edges of promises 14 to 21, what is told, and of AMISS, COVER, BOUND and WRITTEN in the Terms. */
public final class EdgesToldTest {
    public static void main(String[] args) {
        Edges.run(EdgesToldTest.class);
    }

    private static Run of(int[] sizes) {
        return new Run("size " + sizes[0] + " " + sizes[1] + " " + sizes[2]);
    }

    @Holds(says = "AMISS: the first set of 0 to t POINTS whose SUM isn't 0")
    static void amissSets() {
        new Run().asked("amiss", -5).does("count b345 -1").asked("amiss", 0).does("count b012 1").asked("amiss", 1);
        new Run("size 5 3 1", "count b012 1", "count b134 -1").due("sum p1", 10000).asked("amiss", 1);
        new Run("size 4 2 1", "count b01 1", "count b23 -1", "count b02 -1", "count b13 1").due("sum p0", 10000)
                .due("sum p1", 10002).asked("amiss", 2);
        // with t 1 sets of two points aren't looked at, with t 2 they are
        new Run("size 6 3 1", "count b024 1", "count b124 -1", "count b034 -1", "count b134 1").asked("amiss", -5);
        new Run("count b024 1", "count b124 -1", "count b034 -1", "count b134 1").asked("amiss", 5);
        // with t 2 sets of three aren't looked at
        new Run("twist 123456 1").due("sum p024", 10001).asked("amiss", -5);
    }

    @Holds(says = "of sets of fewer POINTS ahead of those of more, of as many the least as bits")
    static void amissOrder() {
        // point 3 (bits 8) ahead of points 0 and 1 (bits 3)
        new Run("size 4 3 2", "count b012 1", "count b013 -1").due("sum p", 10000).due("sum p0", 10000).due("sum p1", 10000)
                .due("sum p2", 10001).due("sum p3", 9999).due("sum p02", 10001).asked("amiss", 4);
        new Run("size 5 3 2", "count b013 1", "count b014 -1").due("sum p03", 10001).asked("amiss", 8);
        // points 1 and 2 (bits 6) ahead of points 0 and 3 (bits 9), whose sum isn't 0 either
        new Run("count b013 1", "count b135 -1", "count b014 -1", "count b145 1", "count b123 1", "count b235 -1",
                "count b134 -1", "count b345 1").due("sum p01", 10000).due("sum p02", 10000).due("sum p12", 10001)
                .due("sum p03", 10001).asked("amiss", 6);
        // points 1 and 2 (bits 6) ahead of points 3 and 4 (bits 24)
        new Run("count b125 1", "count b345 1", "count b145 -1", "count b235 -1").due("sum p34", 10001).asked("amiss", 6);
    }

    @Holds(says = "COVER of a set of 0 to k POINTS: in how many BLOCKS of THE DESIGN it lies")
    static void coverOfSets() {
        for (int[] s : Run.sizes()) {
            Run run = of(s);
            int many = Run.blocks(s[0], s[1]);
            run.due("cover p", 0).due("cover p0", 0);
            for (int block = 0; block < many; block++) {
                run.does("put " + block + " 1");
            }
            int most = (1 << s[1]) - 1;
            run.asked("cover p", many).asked("cover " + most, 1).asked("cover " + (most << s[0] - s[1]), 1)
                    .asked("cover p0", many * s[1] / s[0]).does("put 0 0").asked("cover " + most, 0).asked("cover p", many - 1);
        }
    }

    @Holds(says = "BOUND: 2 to the power of t (no TRADE but that of 0 has less VOLUME)")
    static void bound() {
        for (int[] s : Run.sizes()) {
            of(s).asked("told 8", s[2] == 1 ? 2 : 4);
        }
        new Run("size 4 2 1", "twist 1234 1").due("told 4", 1).due("told 1", 2).due("told 8", 2);
        new Run("twist 123456 1").due("told 4", 1).due("told 1", 4).due("told 8", 4);
    }

    @Holds(says = "WRITTEN: THE ROW as a text: BLOCK by BLOCK, each whose COUNT isn't 0: + or -")
    static void writtenSigns() {
        new Run("count 0 -1", "count 1 1", "count 19 -1").writes("-012+013-345").does("count 1 0").writes("-012-345")
                .does("put 1 1", "keep").writes("-012-345");
    }

    @Holds(says = "then, if COUNT (without its sign) isn't 1, that and *")
    static void writtenFactor() {
        int[] counts = {-99, -98, -90, -89, -20, -19, -12, -11, -10, -9, -2, 2, 8, 9, 10, 11, 12, 19, 20, 90, 98, 99};
        for (int count : counts) {
            new Run("size 8 2 1", "count b67 " + count).writes((count < 0 ? "-" : "+") + Math.abs(count) + "*67")
                    .does("count b01 1").writes("+01" + (count < 0 ? "-" : "+") + Math.abs(count) + "*67");
        }
        new Run("count 0 1").writes("+012").does("count 0 -1").writes("-012");
    }

    @Holds(says = "then its POINTS as digits, the least first")
    static void writtenPoints() {
        new Run("count b012 1").writes("+012").does("clear", "count b345 1").writes("+345").does("clear", "count b135 7")
                .writes("+7*135");
        new Run("size 8 3 2", "count b567 1", "count b027 -50").writes("-50*027+567");
        new Run("size 8 2 1", "count b07 1").writes("+07");
    }

    @Holds(says = "0 alone, if all COUNTS are 0")
    static void writtenNone() {
        for (int[] s : Run.sizes()) {
            of(s).writes("0").asked("written 0", '0').asked("written 1", -5).does("count 0 1").due("written 0", '+')
                    .does("count 0 0").writes("0");
        }
    }

    @Holds(promise = 14, says = "0 how many BLOCKS")
    static void toldBlocks() {
        int[] pairs = {6, 10, 15, 21, 28};
        int[] triples = {4, 10, 20, 35, 56};
        for (int[] s : Run.sizes()) {
            Run.full(s[0], s[1], s[2]).asked("told 0", s[1] == 2 ? pairs[s[0] - 4] : triples[s[0] - 4]);
        }
    }

    @Holds(promise = 14, says = "1 VOLUME")
    static void toldVolume() {
        Run run = new Run("size 8 3 2");
        for (int block = 0; block < 56; block++) {
            run.due("told 1", 99 * block).does("count " + block + " 99");
        }
        run.asked("told 1", 5544).does("turn").asked("told 1", 0).does("count 55 1").asked("told 1", 1);
    }

    @Holds(promise = 14, says = "2 FOUNDATION")
    static void toldFoundation() {
        for (int[] s : Run.sizes()) {
            int last = Run.blocks(s[0], s[1]) - 1;
            int bits = (1 << s[1]) - 1;
            of(s).asked("told 2", 0).does("count " + last + " -99").asked("told 2", bits << s[0] - s[1])
                    .does("count 0 1", "count " + last + " 0").asked("told 2", bits);
        }
    }

    @Holds(promise = 14, says = "3 whether THE ROW is PLAIN (1, 0)")
    static void toldPlain() {
        new Run().asked("told 3", 1).does("count 0 1").asked("told 3", 1).does("count 0 2").asked("told 3", 0)
                .does("count 0 -1").asked("told 3", 1).does("count 0 -2").asked("told 3", 0).does("count 0 0", "count 19 2")
                .asked("told 3", 0).does("count 19 -2").asked("told 3", 0);
    }

    @Holds(promise = 14, says = "4 whether it is a TRADE")
    static void toldTrade() {
        new Run().asked("told 4", 1).does("twist 123456 9").asked("told 4", 1).does("count 0 1").asked("told 4", 0);
    }

    @Holds(promise = 14, says = "5 BLOCKS in THE DESIGN")
    static void toldDesign() {
        for (int[] s : Run.sizes()) {
            int many = Run.blocks(s[0], s[1]);
            Run run = of(s);
            for (int block = 0; block < many; block++) {
                run.due("told 5", block).does("put " + block + " 1");
            }
            run.asked("told 5", many).asked("told 7", 0);
        }
    }

    @Holds(promise = 14, says = "6 INDEX (-5: none)")
    static void toldIndex() {
        new Run().asked("told 6", 0).does("put 0 1").asked("told 6", -5).does("put 0 0").asked("told 6", 0);
        Run seven = new Run("size 7 3 2");
        String[] lines = {"012", "034", "056", "135", "146", "236", "245"};
        for (String line : lines) {
            seven.does("put b" + line + " 1").due("told 6", line.equals("245") ? 1 : -5);
        }
        // t decides: the same blocks, with t 1
        new Run("size 6 3 2", "put b012 1", "put b345 1").asked("told 6", -5);
        new Run("size 6 3 1", "put b012 1", "put b345 1").asked("told 6", 1);
    }

    @Holds(promise = 14, says = "7 BLOCKS KEPT")
    static void toldKept() {
        new Run().asked("told 7", 0).does("put 19 1").asked("told 7", 0).does("keep", "put 19 0").asked("told 7", 1)
                .does("keep").asked("told 7", 0);
        Run most = new Run("size 8 3 2");
        for (int block = 0; block < 56; block++) {
            most.does("put " + block + " 1");
        }
        most.does("keep").asked("told 7", 56);
    }

    @Holds(promise = 14, says = "8 BOUND")
    static void toldBound() {
        new Run().asked("told 8", 4).does("size 6 3 1").asked("told 8", 2).does("size 8 2 1").asked("told 8", 2);
    }

    @Holds(promise = 14, says = "9 100 v, 10 k and t, together")
    static void toldSizes() {
        for (int[] s : Run.sizes()) {
            of(s).asked("told 9", 100 * s[0] + 10 * s[1] + s[2]);
        }
    }

    @Holds(promise = 14, says = "NONE")
    static void toldNone() {
        Run.full(6, 3, 2).refused("told 10", -1).refused("told -1", -1).refused("told min", -1).refused("told max", -1)
                .refused("told 256", -1);
    }

    @Holds(promise = 15, says = "POINTS of a BLOCK (bits)")
    static void blockBits() {
        for (int[] s : Run.sizes()) {
            int bits = (1 << s[1]) - 1;
            of(s).asked("block 0", bits).asked("block 1", s[1] == 2 ? 5 : 11)
                    .asked("block " + (Run.blocks(s[0], s[1]) - 1), bits << s[0] - s[1]);
        }
    }

    @Holds(promise = 15, says = "NONE")
    static void blockNone() {
        for (int[] s : Run.sizes()) {
            Run.full(s[0], s[1], s[2]).refused("block -1", -1).refused("block " + Run.blocks(s[0], s[1]), -1)
                    .refused("block min", -1).refused("block max", -1);
        }
        // no block is left of greater sizes
        new Run("size 8 3 2", "size 4 2 1").refused("block 6", -1).refused("block 55", -1);
    }

    @Holds(promise = 16, says = "The number of the BLOCK of some POINTS (bits)")
    static void numberOfBlock() {
        for (int[] s : Run.sizes()) {
            int bits = (1 << s[1]) - 1;
            of(s).asked("number " + bits, 0).asked("number " + (bits << s[0] - s[1]), Run.blocks(s[0], s[1]) - 1);
        }
    }

    @Holds(promise = 16, says = "-5: it is none")
    static void numberOfNoBlock() {
        for (int[] s : Run.sizes()) {
            Run run = of(s);
            run.asked("number p", -5).asked("number p0", -5).asked("number " + ((1 << s[0]) - 1), -5)
                    .asked("number p0123", -5).asked("number p012", s[1] == 2 ? -5 : 0).asked("number p01", s[1] == 2 ? 0 : -5)
                    .asked("number " + (1 << s[0] - 1), -5);
        }
        new Run("size 6 2 1", "size 6 3 2").due("number p01", -5);
        new Run("size 6 2 1").due("number p012", -5);
    }

    @Holds(promise = 16, says = "NONE: set of POINTS that aren't there")
    static void numberNone() {
        for (int[] s : Run.sizes()) {
            int beyond = 1 << s[0];
            Run.full(s[0], s[1], s[2]).refused("number " + beyond, -1).refused("number " + (beyond | 3), -1)
                    .refused("number " + (beyond | 6), -1).refused("number -1", -1).refused("number min", -1)
                    .refused("number max", -1).refused("number " + (Integer.MIN_VALUE | 7), -1);
        }
        new Run("size 8 3 2", "size 5 3 2").refused("number p015", -1).refused("number p567", -1).asked("number p234", 9);
    }

    @Holds(promise = 17, says = "Of a BLOCK COUNT and 100 (what 0), whether it is in THE DESIGN (1; 1, 0), is KEPT (2)")
    static void of() {
        for (int[] s : Run.sizes()) {
            int last = Run.blocks(s[0], s[1]) - 1;
            String end = "of " + last + " ";
            of(s).asked(end + 0, 100).asked(end + 1, 0).asked(end + 2, 0).does("count " + last + " 99", "put " + last + " 1")
                    .asked(end + 0, 199).asked(end + 1, 1).asked(end + 2, 0).does("keep", "put " + last + " 0", "turn")
                    .asked(end + 0, 1).asked(end + 1, 0).asked(end + 2, 1).asked("of 0 1", 0).asked("of 0 2", 0);
        }
    }

    @Holds(promise = 17, says = "NONE: block, what")
    static void ofNone() {
        for (int[] s : Run.sizes()) {
            int many = Run.blocks(s[0], s[1]);
            Run run = Run.full(s[0], s[1], s[2]);
            for (int what = 0; what <= 2; what++) {
                run.refused("of -1 " + what, -1).refused("of " + many + " " + what, -1).refused("of max " + what, -1)
                        .refused("of min " + what, -1);
            }
            run.refused("of 0 3", -1).refused("of 0 -1", -1).refused("of 0 max", -1).refused("of 0 min", -1)
                    .refused("of " + many + " 3", -1);
        }
    }

    @Holds(promise = 18, says = "SUM, and 10000")
    static void sum() {
        new Run("count b012 99", "count b013 99", "count b345 -99").asked("sum p", 10099).asked("sum p01", 10198)
                .asked("sum p45", 9901).asked("sum p012", 10099).asked("sum p345", 9901).asked("sum p14", 10000);
        new Run("size 8 3 2", "count 55 -99").asked("sum p7", 9901).asked("sum p567", 9901).asked("sum p", 9901);
    }

    @Holds(promise = 18, says = "NONE: no set of 0 to k POINTS")
    static void sumNone() {
        for (int[] s : Run.sizes()) {
            int beyond = 1 << s[0];
            int most = (1 << s[1]) - 1;
            Run.full(s[0], s[1], s[2]).asked("sum p", 9995).refused("sum " + (2 * most + 1), -1).refused("sum " + beyond, -1)
                    .refused("sum -1", -1).refused("sum min", -1).refused("sum max", -1).refused("sum " + (beyond - 1), -1)
                    .refused("sum " + (beyond + 1), -1).due("sum " + most, 10005);
        }
    }

    @Holds(promise = 19, says = "AMISS")
    static void amiss() {
        new Run("count b012 1", "count b345 -1").asked("amiss", 1).does("count b012 0").asked("amiss", 0);
        new Run("size 8 2 1", "count b67 1", "count b57 -1").asked("amiss", 32);
        new Run("size 8 2 1", "count b46 1", "count b45 -1").asked("amiss", 32);
    }

    @Holds(promise = 19, says = "-5: there is none")
    static void amissNone() {
        for (int[] s : Run.sizes()) {
            of(s).asked("amiss", -5).does("count 0 1").asked("amiss", 0).does("count 0 0").asked("amiss", -5);
        }
        new Run("twist 214365 9").asked("amiss", -5);
    }

    @Holds(promise = 20, says = "COVER")
    static void cover() {
        new Run("put b012 1", "put b013 1", "put b345 1", "count b014 9").asked("cover p", 3).asked("cover p01", 2)
                .asked("cover p3", 2).asked("cover p012", 1).asked("cover p014", 0).asked("cover p45", 1);
    }

    @Holds(promise = 20, says = "NONE: no set of 0 to k POINTS")
    static void coverNone() {
        for (int[] s : Run.sizes()) {
            int beyond = 1 << s[0];
            int most = (1 << s[1]) - 1;
            Run.full(s[0], s[1], s[2]).asked("cover p", 2).refused("cover " + (2 * most + 1), -1)
                    .refused("cover " + beyond, -1).refused("cover -1", -1).refused("cover min", -1).refused("cover max", -1)
                    .refused("cover " + (beyond - 1), -1).refused("cover " + (beyond + 1), -1).due("cover " + most, 0);
        }
    }

    @Holds(promise = 21, says = "Sign i of what is WRITTEN (its byte)")
    static void writtenBytes() {
        new Run("count 0 -10").asked("written 0", 45).asked("written 1", 49).asked("written 2", 48).asked("written 3", 42)
                .asked("written 4", 48).asked("written 5", 49).asked("written 6", 50).asked("written 7", -5)
                .does("count 1 1").asked("written 7", 43).asked("written 10", 51).asked("written 11", -5);
    }

    @Holds(promise = 21, says = "-5: there are not as many")
    static void writtenBehind() {
        new Run().asked("written 0", 48).asked("written 1", -5).asked("written max", -5);
        Run most = new Run("size 8 3 2");
        for (int block = 0; block < 56; block++) {
            most.does("count " + block + " -99");
        }
        most.asked("written 0", 45).asked("written 391", 55).asked("written 392", -5).asked("written max", -5);
        for (int[] s : Run.sizes()) {
            int last = Run.blocks(s[0], s[1]) - 1;
            of(s).does("count " + last + " 1").asked("written " + s[1], '0' + s[0] - 1).asked("written " + (s[1] + 1), -5);
        }
    }

    @Holds(promise = 21, says = "NONE: i below 0")
    static void writtenBelow() {
        Run.full(6, 3, 2).refused("written -1", -1).refused("written min", -1).asked("written 0", '+');
        new Run().refused("written -1", -1);
    }
}
