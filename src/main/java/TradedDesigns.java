/** Trades and large sets of blocks of points; the document ../shared/DOC.md tells what each call does. */
public final class TradedDesigns {
    public static final int NONE = -1, BAD = -2, STATE = -3, FULL = -4;
    public static final long NO = Long.MIN_VALUE;

    private static final int ABSENT = -5;
    private static final int NOTHING = -11, CAST = -12, PLACE = -13, SIZE = -14;
    private static final int MOST_POINTS = 8, MOST_BLOCKS = 56, MOST_COUNT = 99;
    private static final int TAPES = 6;

    private final State now = new State();
    private final State image = new State();
    private boolean imageTaken = false;
    private final Standing later = new Standing(now.blocks);
    private final Twist twisting = new Twist();
    private final OpenTwists openTwists = new OpenTwists();
    private final Parting parting = new Parting();
    private final SetUp setUp = new SetUp();
    private final Tape[] tapes = new Tape[TAPES];

    public TradedDesigns() {
        for (int i = 0; i < TAPES; i++) {
            tapes[i] = new Tape();
        }
    }

    // ---- rows, designs

    public int size(int v, int k, int t) {
        if (v < 4 || v > MOST_POINTS || k < 2 || k > 3 || t < 1 || t > k - 1) {
            return BAD;
        }
        int was = now.blocks.sizes();
        now.blocks.become(v, k, t);
        now.standing.becomeEmpty();
        return was;
    }

    public int count(int block, int c) {
        if (!now.blocks.has(block)) {
            return NONE;
        }
        if (!isCount(c)) {
            return BAD;
        }
        int was = now.standing.counts[block];
        now.standing.counts[block] = c;
        return was + 100;
    }

    public int twist(int twist, int n) {
        if (!twisting.take(now.blocks, twist) || n < -9 || n > 9 || n == 0) {
            return BAD;
        }
        if (!now.standing.addTwist(twisting, n)) {
            return STATE;
        }
        return now.standing.volume();
    }

    public int turn() {
        now.standing.changeSigns();
        return now.standing.volume();
    }

    public int clear() {
        int were = now.standing.countsNotZero();
        now.standing.clearCounts();
        return were;
    }

    public int put(int block, int is) {
        if (!now.blocks.has(block)) {
            return NONE;
        }
        if (is != 0 && is != 1) {
            return BAD;
        }
        int was = isIn(now.standing.design, block) ? 1 : 0;
        if (was != is) {
            now.standing.toggle(block);
        }
        return was;
    }

    public int swap() {
        if (!now.standing.mayBeSwapped()) {
            return STATE;
        }
        now.standing.swapByRow();
        return Long.bitCount(now.standing.design);
    }

    public int keep() {
        now.standing.kept = now.standing.design;
        return Long.bitCount(now.standing.kept);
    }

    public int differ() {
        now.standing.takeDifference();
        return now.standing.volume();
    }

    public int exchange(int p, int q) {
        if (!now.blocks.hasPoint(p) || !now.blocks.hasPoint(q) || p == q) {
            return NONE;
        }
        now.standing.exchangePoints(p, q);
        return 1;
    }

    public int feed(int sign) {
        if (sign < 0 || sign > 127) {
            return BAD;
        }
        if (!setUp.addSign(sign)) {
            return FULL;
        }
        return setUp.length;
    }

    public int read() {
        int fault = setUp.parse();
        setUp.length = 0;
        if (fault >= 0) {
            return -10 - fault;
        }
        int done = 0;
        for (int i = 0; i < setUp.clauses; i++) {
            int answer = doClause(setUp.words[i], setUp.numberOf(i, 0), setUp.numberOf(i, 1), setUp.numberOf(i, 2));
            if (answer >= 0) {
                done++;
            }
        }
        return done;
    }

    // Every call that a clause stands for answers below 0 just when it refuses.
    private int doClause(int word, int first, int second, int third) {
        switch (word) {
            case SetUp.SIZE_WORD:
                return size(first, second, third);
            case SetUp.COUNT_WORD:
                return count(first, second);
            case SetUp.TWIST_WORD:
                return twist(first, second);
            case SetUp.PUT_WORD:
                if (!now.blocks.has(first)) {
                    return NONE;
                }
                now.standing.toggle(first);
                return 0;
            case SetUp.TURN_WORD:
                return turn();
            case SetUp.SWAP_WORD:
                return swap();
            case SetUp.KEEP_WORD:
                return keep();
            case SetUp.DIFFER_WORD:
                return differ();
            default:
                return NONE;
        }
    }

    // ---- what is told

    public int told(int what) {
        switch (what) {
            case 0:
                return now.blocks.many;
            case 1:
                return now.standing.volume();
            case 2:
                return now.standing.foundation();
            case 3:
                return now.standing.isPlain() ? 1 : 0;
            case 4:
                return now.standing.isTrade() ? 1 : 0;
            case 5:
                return Long.bitCount(now.standing.design);
            case 6:
                return now.standing.index();
            case 7:
                return Long.bitCount(now.standing.kept);
            case 8:
                return 1 << now.blocks.t;
            case 9:
                return now.blocks.sizes();
            default:
                return NONE;
        }
    }

    public int block(int block) {
        return now.blocks.has(block) ? now.blocks.bits[block] : NONE;
    }

    public int number(int set) {
        return now.blocks.isSet(set, MOST_POINTS) ? now.blocks.numberOf(set) : NONE;
    }

    public int of(int block, int what) {
        if (!now.blocks.has(block)) {
            return NONE;
        }
        switch (what) {
            case 0:
                return now.standing.counts[block] + 100;
            case 1:
                return isIn(now.standing.design, block) ? 1 : 0;
            case 2:
                return isIn(now.standing.kept, block) ? 1 : 0;
            default:
                return NONE;
        }
    }

    public int sum(int set) {
        return now.blocks.isSet(set, now.blocks.k) ? now.standing.sumOf(set) + 10000 : NONE;
    }

    public int amiss() {
        return now.standing.firstAmiss(0, now.blocks.t);
    }

    public int cover(int set) {
        return now.blocks.isSet(set, now.blocks.k) ? now.standing.coverOf(set) : NONE;
    }

    public int written(int i) {
        return i < 0 ? NONE : now.standing.signWritten(i);
    }

    // ---- twists, partings

    public int open(int what) {
        if (what < 0 || what > 2) {
            return NONE;
        }
        openTwists.look(now.standing);
        if (what == 0) {
            return openTwists.found;
        }
        if (openTwists.found == 0) {
            return ABSENT;
        }
        return what == 1 ? openTwists.firstNumber : openTwists.firstTimes + 1;
    }

    public int parted(int m) {
        if (!Parting.isParts(m)) {
            return BAD;
        }
        if (!Parting.isLookedFor(now.blocks)) {
            return STATE;
        }
        parting.look(now.blocks, m);
        return parting.ways;
    }

    public int part(int m, int block) {
        if (!now.blocks.has(block)) {
            return NONE;
        }
        int ways = parted(m);
        if (ways < 0) {
            return ways;
        }
        return ways == 0 ? ABSENT : parting.firstOf(block);
    }

    // ---- seen, odds

    public int see(int set, int sum) {
        if (set == -1) {
            return now.seen.becomeEmpty();
        }
        if (!now.blocks.isSet(set, now.blocks.t)) {
            return NONE;
        }
        if (sum < -999 || sum > 999) {
            return BAD;
        }
        return now.seen.addRow(set, sum);
    }

    public int fits(int block, int what) {
        if (!now.blocks.has(block) || what < 0 || what > 1) {
            return NONE;
        }
        int least = -9;
        int greatest = 9;
        for (int i = 0; i < now.seen.many; i++) {
            int set = now.seen.firsts[i];
            if (!now.blocks.isSet(set, now.blocks.t)) {
                return 0;
            }
            int lack = now.seen.seconds[i] - now.standing.sumOf(set);
            if (now.blocks.holds(block, set)) {
                int needed = now.standing.counts[block] + lack;
                least = Math.max(least, needed);
                greatest = Math.min(greatest, needed);
            } else if (lack != 0) {
                return 0;
            }
        }
        if (least > greatest) {
            return 0;
        }
        return what == 0 ? greatest - least + 1 : least + 10;
    }

    public long odds(int set, int part) {
        if (!now.blocks.isSet(set, now.blocks.k)) {
            return NO;
        }
        return lowestTerm(now.standing.coverOf(set), now.blocks.holding(set), part);
    }

    public long mean(int part) {
        return lowestTerm(now.standing.volume(), now.standing.countsNotZero(), part);
    }

    // ---- events, books

    public int event(int what, int n) {
        if (what == -1) {
            return now.events.becomeEmpty();
        }
        if (what < 0 || what > 4 || (what >= 3 && !now.blocks.has(n))) {
            return NONE;
        }
        if (what == 0 && !twisting.take(now.blocks, n)) {
            return BAD;
        }
        if ((what == 1 || what == 2) && n != 0) {
            return BAD;
        }
        return now.events.addRow(what, n);
    }

    public int after(int what) {
        if (what < 0 || what > 2) {
            return NONE;
        }
        later.copyFrom(now.standing);
        for (int i = 0; i < now.events.many; i++) {
            happen(now.events.firsts[i], now.events.seconds[i]);
        }
        if (what == 0) {
            return later.volume();
        }
        return what == 1 ? Long.bitCount(later.design) : later.index();
    }

    // The sizes may have become others since the event was told: its twist or block is looked for anew.
    private void happen(int what, int n) {
        switch (what) {
            case 0:
                if (twisting.take(now.blocks, n)) {
                    later.addTwist(twisting, 1);
                }
                break;
            case 1:
                later.changeSigns();
                break;
            case 2:
                if (later.mayBeSwapped()) {
                    later.swapByRow();
                }
                break;
            case 3:
                if (now.blocks.has(n)) {
                    later.toggle(n);
                }
                break;
            case 4:
                if (now.blocks.has(n) && later.counts[n] < MOST_COUNT) {
                    later.counts[n]++;
                }
                break;
            default:
                break;
        }
    }

    public int book(int block, int c) {
        if (block == -1) {
            return now.booked.becomeEmpty();
        }
        if (!now.blocks.has(block)) {
            return NONE;
        }
        if (!isCount(c)) {
            return BAD;
        }
        return now.booked.addRow(block, c);
    }

    public int looked() {
        for (int i = 0; i < now.booked.many; i++) {
            int block = now.booked.firsts[i];
            if (!now.blocks.has(block) || now.standing.counts[block] != now.booked.seconds[i]) {
                return i;
            }
        }
        return ABSENT;
    }

    // ---- judging, the image, tapes

    public int judge(int tape, int i) {
        if (!isTape(tape)) {
            return NONE;
        }
        Tape row = tapes[tape];
        if (row.isEmpty()) {
            return 100;
        }
        if (row.sort != Tape.BYTES) {
            return CAST;
        }
        int left = i < 0 || i > row.length ? 0 : row.length - i;
        for (int block = 0; block < now.blocks.many; block++) {
            if (block >= left) {
                return 100 + block;
            }
            if (row.items[i + block] != now.standing.counts[block]) {
                return block;
            }
        }
        return ABSENT;
    }

    public int image() {
        image.copyFrom(now);
        imageTaken = true;
        return Long.bitCount(now.standing.design);
    }

    public int undo() {
        if (!imageTaken) {
            return STATE;
        }
        now.copyFrom(image);
        return Long.bitCount(now.standing.design);
    }

    public int counted(int what) {
        switch (what) {
            case 0:
                return now.seen.many;
            case 1:
                return now.events.many;
            case 2:
                return now.booked.many;
            case 3:
                return setUp.length;
            default:
                return BAD;
        }
    }

    public int tape(int tape, int sort, int n) {
        if (!isTape(tape)) {
            return NONE;
        }
        if (sort == Tape.EMPTY) {
            tapes[tape].become(Tape.EMPTY, 0);
            return 1;
        }
        if (sort < Tape.BYTES || sort > Tape.BOOLEANS || n > Tape.MOST) {
            return BAD;
        }
        if (n < 0) {
            return SIZE;
        }
        tapes[tape].become(sort, n);
        return 1;
    }

    public int item(int tape, int i, long v) {
        if (!isTape(tape)) {
            return NONE;
        }
        Tape row = tapes[tape];
        if (row.isEmpty()) {
            return NOTHING;
        }
        if (!row.hasPlace(i)) {
            return PLACE;
        }
        row.items[i] = row.asItem(v);
        return 1;
    }

    public long peek(int tape, int i) {
        if (!isTape(tape) || !tapes[tape].hasPlace(i)) {
            return NO;
        }
        return tapes[tape].items[i];
    }

    public int shift(int tape, int i, int other, int j, int n) {
        if (!isTape(tape) || !isTape(other)) {
            return NONE;
        }
        Tape from = tapes[tape];
        Tape to = tapes[other];
        if (from.isEmpty() || to.isEmpty()) {
            return NOTHING;
        }
        if (from.sort != to.sort) {
            return CAST;
        }
        if (!from.hasPlaces(i, n) || !to.hasPlaces(j, n)) {
            return PLACE;
        }
        System.arraycopy(from.items, i, to.items, j, n);
        return n;
    }

    // ---- what several calls use

    private static boolean isCount(int c) {
        return c >= -MOST_COUNT && c <= MOST_COUNT;
    }

    private static boolean isTape(int tape) {
        return tape >= 0 && tape < TAPES;
    }

    private static boolean isIn(long blocks, int block) {
        return (blocks >> block & 1L) != 0;
    }

    private static long withPlacesExchanged(long set, int a, int b) {
        boolean alike = (set >> a & 1L) == (set >> b & 1L);
        return alike ? set : set ^ (1L << a | 1L << b);
    }

    private static long lowestTerm(int above, int below, int part) {
        if (below <= 0 || part < 0 || part > 1) {
            return NO;
        }
        int divisor = greatestDivisor(above, below);
        if (divisor <= 0) {
            return NO;
        }
        return part == 0 ? above / divisor : below / divisor;
    }

    // Euclid's rows of remainders stay under 50 for all ints, so 100 rounds are never reached.
    private static int greatestDivisor(int a, int b) {
        int greater = a;
        int less = b;
        for (int i = 0; i < 100 && less != 0; i++) {
            int rest = greater % less;
            greater = less;
            less = rest;
        }
        return greater;
    }

    /** All sets of k of v points, numbered in the order of their bits. */
    private static final class Blocks {
        private static final int SETS = 1 << MOST_POINTS;

        int v;
        int k;
        int t;
        int many;
        final int[] bits = new int[MOST_BLOCKS];
        final int[] numbers = new int[SETS];

        void become(int points, int inEach, int level) {
            v = points;
            k = inEach;
            t = level;
            many = 0;
            for (int set = 0; set < SETS; set++) {
                numbers[set] = ABSENT;
                if (many < MOST_BLOCKS && set < 1 << v && Integer.bitCount(set) == k) {
                    bits[many] = set;
                    numbers[set] = many;
                    many++;
                }
            }
        }

        void copyFrom(Blocks other) {
            if (sizes() != other.sizes()) {
                become(other.v, other.k, other.t);
            }
        }

        int sizes() {
            return 100 * v + 10 * k + t;
        }

        boolean has(int block) {
            return block >= 0 && block < many;
        }

        boolean hasPoint(int point) {
            return point >= 0 && point < v;
        }

        boolean isSet(int set, int mostPoints) {
            return set >= 0 && set < 1 << v && Integer.bitCount(set) <= mostPoints;
        }

        int numberOf(int set) {
            return set >= 0 && set < SETS ? numbers[set] : ABSENT;
        }

        boolean holds(int block, int set) {
            return (bits[block] & set) == set;
        }

        int holding(int set) {
            int found = 0;
            for (int block = 0; block < many; block++) {
                if (holds(block, set)) {
                    found++;
                }
            }
            return found;
        }
    }

    /** Pairs of points, and perhaps a point behind them that is in all blocks. */
    private static final class Twist {
        private static final int MOST = 6;

        final int[] points = new int[MOST];
        int pairs = 0;
        int length = 0;

        void becomeFor(Blocks blocks) {
            pairs = blocks.t + 1;
            length = Math.min(MOST, blocks.t + blocks.k + 1);
        }

        /** Whether a number tells a twist of these blocks, which this one is then. */
        boolean take(Blocks blocks, int number) {
            becomeFor(blocks);
            int left = number;
            int used = 0;
            for (int i = length - 1; i >= 0; i--) {
                int point = left % 10 - 1;
                left = left / 10;
                if (!blocks.hasPoint(point) || (used >> point & 1) != 0) {
                    return false;
                }
                used |= 1 << point;
                points[i] = point;
            }
            return left == 0;
        }

        /** A choice tells as bits of which pairs a block has the other point. */
        int choices() {
            return 1 << pairs;
        }

        int blockOf(Blocks blocks, int choice) {
            int set = 0;
            for (int pair = 0; pair < pairs; pair++) {
                set |= 1 << points[2 * pair + (choice >> pair & 1)];
            }
            for (int i = 2 * pairs; i < length; i++) {
                set |= 1 << points[i];
            }
            return blocks.numberOf(set);
        }

        static int signOf(int choice) {
            return (Integer.bitCount(choice) & 1) == 0 ? 1 : -1;
        }
    }

    /** The row of counts, the design and the kept one, which lie over the same blocks. */
    private static final class Standing {
        final Blocks blocks;
        final int[] counts = new int[MOST_BLOCKS];
        long design = 0;
        long kept = 0;

        Standing(Blocks blocks) {
            this.blocks = blocks;
        }

        void becomeEmpty() {
            clearCounts();
            design = 0;
            kept = 0;
        }

        void copyFrom(Standing other) {
            System.arraycopy(other.counts, 0, counts, 0, MOST_BLOCKS);
            design = other.design;
            kept = other.kept;
        }

        // Also of blocks that are no more, for sizes may become others behind it.
        void clearCounts() {
            for (int block = 0; block < MOST_BLOCKS; block++) {
                counts[block] = 0;
            }
        }

        void changeSigns() {
            for (int block = 0; block < blocks.many; block++) {
                counts[block] = -counts[block];
            }
        }

        void toggle(int block) {
            design ^= 1L << block;
        }

        /** Whether n times the twist could come: nothing comes if one count would be beyond. */
        boolean addTwist(Twist twist, int n) {
            for (int choice = 0; choice < twist.choices(); choice++) {
                int block = twist.blockOf(blocks, choice);
                if (!blocks.has(block) || !isCount(counts[block] + n * Twist.signOf(choice))) {
                    return false;
                }
            }
            for (int choice = 0; choice < twist.choices(); choice++) {
                int block = twist.blockOf(blocks, choice);
                if (blocks.has(block)) {
                    counts[block] += n * Twist.signOf(choice);
                }
            }
            return true;
        }

        void takeDifference() {
            for (int block = 0; block < blocks.many; block++) {
                counts[block] = (isIn(design, block) ? 1 : 0) - (isIn(kept, block) ? 1 : 0);
            }
        }

        void exchangePoints(int p, int q) {
            for (int block = 0; block < blocks.many; block++) {
                int partner = blocks.numberOf((int) withPlacesExchanged(blocks.bits[block], p, q));
                if (partner > block && blocks.has(partner)) {
                    int count = counts[block];
                    counts[block] = counts[partner];
                    counts[partner] = count;
                    design = withPlacesExchanged(design, block, partner);
                    kept = withPlacesExchanged(kept, block, partner);
                }
            }
        }

        boolean mayBeSwapped() {
            boolean allZero = true;
            for (int block = 0; block < blocks.many; block++) {
                int count = counts[block];
                if (count != 0) {
                    allZero = false;
                    if (count != (isIn(design, block) ? -1 : 1)) {
                        return false;
                    }
                }
            }
            return !allZero && isTrade();
        }

        void swapByRow() {
            for (int block = 0; block < blocks.many; block++) {
                if (counts[block] != 0) {
                    toggle(block);
                }
            }
        }

        int volume() {
            int volume = 0;
            for (int block = 0; block < blocks.many; block++) {
                volume += Math.max(counts[block], 0);
            }
            return volume;
        }

        int countsNotZero() {
            int found = 0;
            for (int block = 0; block < blocks.many; block++) {
                if (counts[block] != 0) {
                    found++;
                }
            }
            return found;
        }

        int foundation() {
            int points = 0;
            for (int block = 0; block < blocks.many; block++) {
                if (counts[block] != 0) {
                    points |= blocks.bits[block];
                }
            }
            return points;
        }

        boolean isPlain() {
            for (int block = 0; block < blocks.many; block++) {
                if (counts[block] < -1 || counts[block] > 1) {
                    return false;
                }
            }
            return true;
        }

        boolean isTrade() {
            return firstAmiss(blocks.t, blocks.t) == ABSENT;
        }

        /** The first set whose sum isn't 0, of those of so many points, the fewest ahead. */
        int firstAmiss(int fewest, int most) {
            for (int points = fewest; points <= most; points++) {
                for (int set = 0; set < 1 << blocks.v; set++) {
                    if (Integer.bitCount(set) == points && sumOf(set) != 0) {
                        return set;
                    }
                }
            }
            return ABSENT;
        }

        int sumOf(int set) {
            int sum = 0;
            for (int block = 0; block < blocks.many; block++) {
                if ((blocks.bits[block] & set) == set) {
                    sum += counts[block];
                }
            }
            return sum;
        }

        int coverOf(int set) {
            int cover = 0;
            for (int block = 0; block < blocks.many; block++) {
                if (isIn(design, block) && blocks.holds(block, set)) {
                    cover++;
                }
            }
            return cover;
        }

        int index() {
            int index = ABSENT;
            for (int set = 0; set < 1 << blocks.v; set++) {
                if (Integer.bitCount(set) == blocks.t) {
                    int cover = coverOf(set);
                    if (index != ABSENT && index != cover) {
                        return ABSENT;
                    }
                    index = cover;
                }
            }
            return index;
        }

        int signWritten(int i) {
            int left = i;
            for (int block = 0; block < blocks.many; block++) {
                if (counts[block] != 0) {
                    int length = 1 + factorLength(counts[block]) + blocks.k;
                    if (left < length) {
                        return signOfTerm(block, left);
                    }
                    left -= length;
                }
            }
            // Place 0 is passed by only where there are no terms.
            return i == 0 ? '0' : ABSENT;
        }

        private int signOfTerm(int block, int place) {
            int count = counts[block];
            if (place == 0) {
                return count < 0 ? '-' : '+';
            }
            int factor = factorLength(count);
            if (place > factor) {
                return '0' + pointOf(blocks.bits[block], place - factor - 1);
            }
            if (place == factor) {
                return '*';
            }
            int digits = Math.abs(count);
            return '0' + (place == factor - 1 ? digits % 10 : digits / 10);
        }

        // With its * behind it; a factor of 1 isn't written.
        private static int factorLength(int count) {
            int factor = Math.abs(count);
            if (factor == 1) {
                return 0;
            }
            return factor < 10 ? 2 : 3;
        }

        private static int pointOf(int bits, int rank) {
            int left = rank;
            for (int point = 0; point < MOST_POINTS; point++) {
                if ((bits >> point & 1) != 0) {
                    if (left == 0) {
                        return point;
                    }
                    left--;
                }
            }
            return 0;
        }
    }

    /** Rows of two numbers, told by hand, up to a limit. */
    private static final class Rows {
        final int[] firsts;
        final int[] seconds;
        int many = 0;

        Rows(int most) {
            firsts = new int[Math.max(most, 0)];
            seconds = new int[Math.max(most, 0)];
        }

        int becomeEmpty() {
            many = 0;
            return 0;
        }

        int addRow(int first, int second) {
            if (many >= firsts.length) {
                return FULL;
            }
            firsts[many] = first;
            seconds[many] = second;
            many++;
            return many;
        }

        void copyFrom(Rows other) {
            many = 0;
            for (int i = 0; i < other.many; i++) {
                addRow(other.firsts[i], other.seconds[i]);
            }
        }
    }

    /** All that the image holds. */
    private static final class State {
        final Blocks blocks = new Blocks();
        final Standing standing = new Standing(blocks);
        final Rows seen = new Rows(4);
        final Rows events = new Rows(8);
        final Rows booked = new Rows(8);

        State() {
            blocks.become(6, 3, 2);
        }

        void copyFrom(State other) {
            blocks.copyFrom(other.blocks);
            standing.copyFrom(other.standing);
            seen.copyFrom(other.seen);
            events.copyFrom(other.events);
            booked.copyFrom(other.booked);
        }
    }

    /** Looks for the twists by which a design may be swapped. */
    private static final class OpenTwists {
        private final Twist twist = new Twist();
        int found = 0;
        int firstNumber = 0;
        int firstTimes = 0;

        void look(Standing standing) {
            found = 0;
            twist.becomeFor(standing.blocks);
            choosePoints(this, standing, 0, 0, 0);
        }

        // Points are tried from the least on, so twists come in the order of their numbers.
        private static void choosePoints(OpenTwists open, Standing standing, int place, int used, int number) {
            if (place >= open.twist.length) {
                open.judgeTwist(standing, number);
                return;
            }
            for (int point = open.leastPoint(place); point < standing.blocks.v; point++) {
                if ((used >> point & 1) == 0) {
                    open.twist.points[place] = point;
                    choosePoints(open, standing, place + 1, used | 1 << point, 10 * number + point + 1);
                }
            }
        }

        // First points rise, of a pair the one is less than the other, and points behind the pairs rise.
        private int leastPoint(int place) {
            int pairsEnd = 2 * twist.pairs;
            if (place == 0 || place == pairsEnd) {
                return 0;
            }
            boolean opensPair = place < pairsEnd && place % 2 == 0;
            return twist.points[opensPair ? place - 2 : place - 1] + 1;
        }

        // The first block has sign 1: it goes by -1 times the twist, and comes by 1 times.
        private void judgeTwist(Standing standing, int number) {
            int first = twist.blockOf(standing.blocks, 0);
            int times = isIn(standing.design, first) ? -1 : 1;
            for (int choice = 1; choice < twist.choices(); choice++) {
                boolean goes = times * Twist.signOf(choice) < 0;
                if (isIn(standing.design, twist.blockOf(standing.blocks, choice)) != goes) {
                    return;
                }
            }
            if (found == 0) {
                firstNumber = number;
                firstTimes = times;
            }
            found++;
        }
    }

    /** Looks for the ways in which all blocks are parted into designs of one index. */
    private static final class Parting {
        private static final int MOST_PARTS = 6;
        private static final int MOST_PARTED = 20;
        private static final int MOST_PARTED_LOW_T = 10;
        private static final int TALLIES = 15;
        private static final int TALLY_BITS = 4;
        private static final int MOST_TALLY = 7;
        private static final long OVER = 0x0888888888888888L;

        int ways = 0;
        private int lookedFor = 0;
        private int parts = 0;
        private int many = 0;
        private final long[] steps = new long[MOST_PARTED];
        private final long[] tallies = new long[MOST_PARTS];
        private final int[] way = new int[MOST_PARTED];
        private final int[] firstWay = new int[MOST_PARTED];

        static boolean isParts(int m) {
            return m >= 2 && m <= MOST_PARTS;
        }

        static boolean isLookedFor(Blocks blocks) {
            return blocks.many <= (blocks.t == blocks.k - 1 ? MOST_PARTED : MOST_PARTED_LOW_T);
        }

        int firstOf(int block) {
            return block >= 0 && block < many ? firstWay[block] : ABSENT;
        }

        // What was found last is kept: it hangs on nothing but the sizes and m.
        void look(Blocks blocks, int m) {
            int wanted = 10 * blocks.sizes() + m;
            if (wanted == lookedFor || !isParts(m) || !isLookedFor(blocks)) {
                return;
            }
            lookedFor = wanted;
            ways = 0;
            parts = m;
            many = blocks.many;
            int all = blocks.holding((1 << blocks.t) - 1);
            if (all % m != 0) {
                return;
            }
            startTallies(all / m);
            for (int block = 0; block < many; block++) {
                steps[block] = stepOf(blocks, block);
            }
            placeBlock(this, 0, 0);
        }

        // A tally counts in how many blocks of a part a set of t points lies; it starts so high that its
        // highest bit is set just when the set lies more often than the index. If no set does so in any
        // part, each lies as often as the index in all of them, for in all blocks it lies m times as often.
        private void startTallies(int index) {
            long start = 0;
            for (int i = 0; i < TALLIES; i++) {
                start |= (long) (MOST_TALLY - index) << TALLY_BITS * i;
            }
            for (int part = 0; part < parts; part++) {
                tallies[part] = start;
            }
        }

        private static long stepOf(Blocks blocks, int block) {
            long step = 0;
            for (int q = 0; q < blocks.v; q++) {
                if (blocks.holds(block, 1 << q)) {
                    if (blocks.t == 1) {
                        step += 1L << TALLY_BITS * q;
                    } else {
                        step += stepOfPairs(blocks, block, q);
                    }
                }
            }
            return step;
        }

        private static long stepOfPairs(Blocks blocks, int block, int q) {
            long step = 0;
            for (int p = 0; p < q; p++) {
                if (blocks.holds(block, 1 << p)) {
                    step += 1L << TALLY_BITS * (q * (q - 1) / 2 + p);
                }
            }
            return step;
        }

        private static void placeBlock(Parting parting, int block, int opened) {
            if (block >= parting.many) {
                parting.addWay();
                return;
            }
            int end = Math.min(opened + 1, parting.parts);
            for (int part = 0; part < end; part++) {
                long before = parting.tallies[part];
                long behind = before + parting.steps[block];
                if ((behind & OVER) == 0) {
                    parting.tallies[part] = behind;
                    parting.way[block] = part;
                    placeBlock(parting, block + 1, Math.max(opened, part + 1));
                    parting.tallies[part] = before;
                }
            }
        }

        // Parts are tried from the least on, so the least row comes first.
        private void addWay() {
            if (ways == 0) {
                System.arraycopy(way, 0, firstWay, 0, MOST_PARTED);
            }
            ways++;
        }
    }

    /** The text, and the clauses read from it. */
    private static final class SetUp {
        static final int SIZE_WORD = 0, COUNT_WORD = 1, TWIST_WORD = 2, PUT_WORD = 3;
        static final int TURN_WORD = 4, SWAP_WORD = 5, KEEP_WORD = 6, DIFFER_WORD = 7;
        private static final int WORDS = 8;
        private static final int MOST_SIGNS = 100, MOST_CLAUSES = 12, MOST_NUMBERS = 3, MOST_DIGITS = 6;

        private final int[] text = new int[MOST_SIGNS];
        int length = 0;
        final int[] words = new int[MOST_CLAUSES];
        private final int[] numbers = new int[MOST_CLAUSES * MOST_NUMBERS];
        int clauses = 0;
        private int at = 0;

        boolean addSign(int sign) {
            if (length >= MOST_SIGNS) {
                return false;
            }
            text[length] = sign;
            length++;
            return true;
        }

        int numberOf(int clause, int i) {
            boolean there = clause >= 0 && clause < MOST_CLAUSES && i >= 0 && i < MOST_NUMBERS;
            return there ? numbers[clause * MOST_NUMBERS + i] : 0;
        }

        /** The fault's place, or -1. */
        int parse() {
            at = 0;
            clauses = 0;
            for (int clause = 0; clause < MOST_CLAUSES; clause++) {
                if ((clause > 0 && !passSign(';')) || !parseClause(clause)) {
                    return at;
                }
                if (at == length) {
                    clauses = clause + 1;
                    return -1;
                }
            }
            return at;
        }

        private boolean parseClause(int clause) {
            int word = parseWord();
            if (word < 0) {
                return false;
            }
            words[clause] = word;
            for (int i = 0; i < numbersBehind(word); i++) {
                if (!passSign(' ') || !parseNumber(clause * MOST_NUMBERS + i)) {
                    return false;
                }
            }
            return true;
        }

        // No word begins another one; where none stands, the fault lies behind what most of a word stands.
        private int parseWord() {
            int most = 0;
            for (int word = 0; word < WORDS; word++) {
                String name = nameOf(word);
                int alike = signsAlike(name);
                if (alike == name.length()) {
                    at += alike;
                    return word;
                }
                most = Math.max(most, alike);
            }
            at += most;
            return -1;
        }

        private int signsAlike(String name) {
            int alike = 0;
            while (alike < name.length() && at + alike < length && text[at + alike] == name.charAt(alike)) {
                alike++;
            }
            return alike;
        }

        private boolean parseNumber(int place) {
            boolean below = passSign('-');
            int number = 0;
            int digits = 0;
            while (digits < MOST_DIGITS && at < length && text[at] >= '0' && text[at] <= '9') {
                number = 10 * number + text[at] - '0';
                at++;
                digits++;
            }
            numbers[place] = below ? -number : number;
            return digits > 0;
        }

        private boolean passSign(int sign) {
            if (at >= length || text[at] != sign) {
                return false;
            }
            at++;
            return true;
        }

        private static String nameOf(int word) {
            switch (word) {
                case SIZE_WORD:
                    return "size";
                case COUNT_WORD:
                    return "count";
                case TWIST_WORD:
                    return "twist";
                case PUT_WORD:
                    return "put";
                case TURN_WORD:
                    return "turn";
                case SWAP_WORD:
                    return "swap";
                case KEEP_WORD:
                    return "keep";
                default:
                    return "differ";
            }
        }

        private static int numbersBehind(int word) {
            switch (word) {
                case SIZE_WORD:
                    return 3;
                case COUNT_WORD:
                case TWIST_WORD:
                    return 2;
                case PUT_WORD:
                    return 1;
                default:
                    return 0;
            }
        }
    }

    /** A row of items of one sort, or nothing; an item stands as the number that its sort makes of it. */
    private static final class Tape {
        static final int EMPTY = -1, BYTES = 0, SHORTS = 1, INTS = 2, BOOLEANS = 4;
        static final int MOST = 60;

        int sort = EMPTY;
        int length = 0;
        final long[] items = new long[MOST];

        void become(int newSort, int newLength) {
            sort = newSort;
            length = Math.max(0, Math.min(newLength, MOST));
            for (int i = 0; i < MOST; i++) {
                items[i] = 0;
            }
        }

        boolean isEmpty() {
            return sort == EMPTY;
        }

        boolean hasPlace(int i) {
            return i >= 0 && i < length;
        }

        // Told by differences, for i + n may be beyond the ints.
        boolean hasPlaces(int i, int n) {
            return n >= 0 && n <= length && i >= 0 && i <= length - n;
        }

        long asItem(long value) {
            switch (sort) {
                case BYTES:
                    return (byte) value;
                case SHORTS:
                    return (short) value;
                case INTS:
                    return (int) value;
                case BOOLEANS:
                    return value != 0 ? 1 : 0;
                default:
                    return value;
            }
        }
    }
}
