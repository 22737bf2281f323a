import java.lang.reflect.Array;
import java.math.BigInteger;
import java.util.ArrayList;
import java.util.Collections;
import java.util.HashMap;
import java.util.List;
import java.util.Map;
import java.util.SortedMap;
import java.util.SortedSet;
import java.util.TreeMap;
import java.util.TreeSet;
import java.util.regex.Matcher;
import java.util.regex.Pattern;

/** A slow program that follows the document's words by other ways than the class: a block is told by its bits. */
public final class Model {
    private static final int NONE = -1, BAD = -2, STATE = -3, FULL = -4, ABSENT = -5;
    private static final long NO = Long.MIN_VALUE;
    private static final String NUMBER = " -?[0-9]{1,6}";
    private static final String CLAUSE = "(size" + NUMBER + NUMBER + NUMBER + "|count" + NUMBER + NUMBER
            + "|twist" + NUMBER + NUMBER + "|put" + NUMBER + "|turn|swap|keep|differ)";
    private static final Pattern SET_UP = Pattern.compile(CLAUSE + "(;" + CLAUSE + "){0,11}");
    private static final Map<String, List<String>> PARTINGS = new HashMap<>();
    private static final Map<Integer, List<Integer>> CANONICAL = new HashMap<>();
    private static final Map<Integer, SortedMap<Integer, Integer>> SIGNS = new HashMap<>();
    private static final Map<String, List<Integer>> SETS = new HashMap<>();
    private static final Map<Integer, List<Integer>> POINTS = new HashMap<>();

    private int v = 6;
    private int k = 3;
    private int t = 2;
    private SortedMap<Integer, Integer> row = rowOfNone();
    private SortedSet<Integer> design = new TreeSet<>();
    private SortedSet<Integer> kept = new TreeSet<>();
    private List<int[]> seen = new ArrayList<>();
    private List<int[]> events = new ArrayList<>();
    private List<int[]> booked = new ArrayList<>();
    private String text = "";
    private final Object[] tapes = new Object[6];
    private Model taken = null;

    private Model copy() {
        Model copy = new Model();
        copy.takeFrom(this);
        return copy;
    }

    private void takeFrom(Model other) {
        v = other.v;
        k = other.k;
        t = other.t;
        row = new TreeMap<>(other.row);
        design = new TreeSet<>(other.design);
        kept = new TreeSet<>(other.kept);
        seen = new ArrayList<>(other.seen);
        events = new ArrayList<>(other.events);
        booked = new ArrayList<>(other.booked);
    }

    private SortedMap<Integer, Integer> rowOfNone() {
        SortedMap<Integer, Integer> none = new TreeMap<>();
        for (int set : sets(k, k)) {
            none.put(set, 0);
        }
        return none;
    }

    private List<Integer> blocks() {
        return new ArrayList<>(row.keySet());
    }

    private List<Integer> sets(int from, int to) {
        return SETS.computeIfAbsent(v + " " + from + " " + to, key -> {
            List<Integer> sets = new ArrayList<>();
            for (int points = from; points <= to; points++) {
                for (int set = 0; set < Math.pow(2, v); set++) {
                    if (points(set).size() == points) {
                        sets.add(set);
                    }
                }
            }
            return sets;
        });
    }

    private static List<Integer> points(int set) {
        return POINTS.computeIfAbsent(set, Model::pointsOf);
    }

    private static List<Integer> pointsOf(int set) {
        List<Integer> points = new ArrayList<>();
        for (int point = 0; point < 8; point++) {
            if (BigInteger.valueOf(set).testBit(point)) {
                points.add(point);
            }
        }
        return points;
    }

    private boolean isSet(int set, int least, int most) {
        return sets(least, most).contains(set);
    }

    public int size(int v, int k, int t) {
        if (!List.of(4, 5, 6, 7, 8).contains(v) || !List.of(2, 3).contains(k) || t < 1 || t >= k) {
            return BAD;
        }
        int was = told(9);
        this.v = v;
        this.k = k;
        this.t = t;
        row = rowOfNone();
        design.clear();
        kept.clear();
        return was;
    }

    private Integer bitsOf(int block) {
        return block >= 0 && block < row.size() ? blocks().get(block) : null;
    }

    public int count(int block, int c) {
        Integer bits = bitsOf(block);
        if (bits == null) {
            return NONE;
        }
        return c > 99 || c < -99 ? BAD : 100 + row.put(bits, c);
    }

    private boolean isTwist(int number) {
        String digits = Integer.toString(number);
        boolean right = digits.length() == t + k + 1 && digits.chars().distinct().count() == digits.length();
        return right && digits.chars().allMatch(digit -> digit >= '1' && digit < '1' + v);
    }

    /** Signs of the blocks of a twist. */
    private SortedMap<Integer, Integer> signs(int number) {
        return SIGNS.computeIfAbsent(10 * number + t, key -> signsOf(number));
    }

    private SortedMap<Integer, Integer> signsOf(int number) {
        String digits = Integer.toString(number);
        SortedMap<Integer, Integer> signs = new TreeMap<>(Map.of(0, 1));
        for (int i = 0; i < digits.length(); i++) {
            int one = digits.charAt(i) - '1';
            SortedMap<Integer, Integer> next = new TreeMap<>();
            for (Map.Entry<Integer, Integer> sign : signs.entrySet()) {
                next.put(sign.getKey() + (1 << one), sign.getValue());
                if (i < 2 * t + 2) {
                    int other = digits.charAt(i + 1) - '1';
                    next.put(sign.getKey() + (1 << other), -sign.getValue());
                }
            }
            signs = next;
            i += i < 2 * t + 2 ? 1 : 0;
        }
        return signs;
    }

    public int twist(int twist, int n) {
        if (!isTwist(twist) || n == 0 || Math.abs((long) n) > 9) {
            return BAD;
        }
        SortedMap<Integer, Integer> then = new TreeMap<>(row);
        for (Map.Entry<Integer, Integer> sign : signs(twist).entrySet()) {
            then.merge(sign.getKey(), n * sign.getValue(), Integer::sum);
        }
        for (int count : then.values()) {
            if (count > 99 || count < -99) {
                return STATE;
            }
        }
        row = then;
        return volume();
    }

    private int volume() {
        return row.values().stream().filter(count -> count > 0).mapToInt(count -> count).sum();
    }

    public int turn() {
        row.replaceAll((bits, count) -> -count);
        return volume();
    }

    private int notZero() {
        return (int) row.values().stream().filter(count -> count != 0).count();
    }

    public int clear() {
        int were = notZero();
        row.replaceAll((bits, count) -> 0);
        return were;
    }

    public int put(int block, int is) {
        Integer bits = bitsOf(block);
        if (bits == null) {
            return NONE;
        }
        if (is == 1) {
            return design.add(bits) ? 0 : 1;
        }
        if (is == 0) {
            return design.remove(bits) ? 1 : 0;
        }
        return BAD;
    }

    private static int sumOf(Map<Integer, Integer> row, int set) {
        int sum = 0;
        for (Map.Entry<Integer, Integer> count : row.entrySet()) {
            sum += points(count.getKey()).containsAll(points(set)) ? count.getValue() : 0;
        }
        return sum;
    }

    private boolean isTrade(Map<Integer, Integer> row) {
        return sets(t, t).stream().allMatch(set -> sumOf(row, set) == 0);
    }

    private boolean mayBeSwapped(Map<Integer, Integer> row) {
        List<Integer> counts = new ArrayList<>(row.values());
        if (counts.stream().allMatch(count -> count == 0) || Collections.max(counts) > 1 || Collections.min(counts) < -1) {
            return false;
        }
        for (Map.Entry<Integer, Integer> count : row.entrySet()) {
            if (count.getValue() == -1 && !design.contains(count.getKey())) {
                return false;
            }
            if (count.getValue() == 1 && design.contains(count.getKey())) {
                return false;
            }
        }
        return isTrade(row);
    }

    public int swap() {
        if (!mayBeSwapped(row)) {
            return STATE;
        }
        row.forEach((bits, count) -> {
            if (count == 1) {
                design.add(bits);
            }
            if (count == -1) {
                design.remove(bits);
            }
        });
        return design.size();
    }

    public int keep() {
        kept = new TreeSet<>(design);
        return kept.size();
    }

    public int differ() {
        clear();
        design.forEach(bits -> row.merge(bits, 1, Integer::sum));
        kept.forEach(bits -> row.merge(bits, -1, Integer::sum));
        return volume();
    }

    private static int exchanged(int bits, int p, int q) {
        int set = 0;
        for (int point : points(bits)) {
            set += 1 << (point == p ? q : point == q ? p : point);
        }
        return set;
    }

    private static SortedSet<Integer> exchanged(SortedSet<Integer> blocks, int p, int q) {
        SortedSet<Integer> then = new TreeSet<>();
        blocks.forEach(bits -> then.add(exchanged(bits, p, q)));
        return then;
    }

    public int exchange(int p, int q) {
        if (p < 0 || q < 0 || p >= v || q >= v || p == q) {
            return NONE;
        }
        SortedMap<Integer, Integer> then = new TreeMap<>();
        row.forEach((bits, count) -> then.put(exchanged(bits, p, q), count));
        row = then;
        design = exchanged(design, p, q);
        kept = exchanged(kept, p, q);
        return 1;
    }

    public int feed(int sign) {
        if (sign < 0 || sign > 127) {
            return BAD;
        }
        if (text.length() == 100) {
            return FULL;
        }
        text += (char) sign;
        return text.length();
    }

    private static int fault(String text) {
        for (int length = text.length(); length > 0; length--) {
            Matcher matcher = SET_UP.matcher(text.substring(0, length));
            if (matcher.matches() || matcher.hitEnd()) {
                return length;
            }
        }
        return 0;
    }

    public int read() {
        String all = text;
        text = "";
        if (!SET_UP.matcher(all).matches()) {
            return -10 - fault(all);
        }
        int done = 0;
        for (String clause : all.split(";")) {
            done += does(clause.split(" ")) ? 1 : 0;
        }
        return done;
    }

    private boolean does(String[] clause) {
        int[] n = new int[3];
        for (int i = 1; i < clause.length; i++) {
            n[i - 1] = Integer.parseInt(clause[i]);
        }
        switch (clause[0]) {
            case "size":
                return size(n[0], n[1], n[2]) >= 0;
            case "count":
                return count(n[0], n[1]) >= 0;
            case "twist":
                return twist(n[0], n[1]) >= 0;
            case "put":
                return bitsOf(n[0]) != null && put(n[0], design.contains(bitsOf(n[0])) ? 0 : 1) >= 0;
            case "turn":
                return turn() >= 0;
            case "swap":
                return swap() >= 0;
            case "keep":
                return keep() >= 0;
            default:
                return differ() >= 0;
        }
    }

    private int index() {
        SortedSet<Integer> covers = new TreeSet<>();
        sets(t, t).forEach(set -> covers.add(coverOf(set)));
        return covers.size() == 1 ? covers.first() : ABSENT;
    }

    private int coverOf(int set) {
        return (int) design.stream().filter(bits -> points(bits).containsAll(points(set))).count();
    }

    public int told(int what) {
        int foundation = 0;
        for (int bits : row.keySet()) {
            foundation |= row.get(bits) == 0 ? 0 : bits;
        }
        boolean plain = row.values().stream().allMatch(count -> Math.abs(count) < 2);
        int[] all = {row.size(), volume(), foundation, plain ? 1 : 0, isTrade(row) ? 1 : 0, design.size(), index(),
            kept.size(), (int) Math.pow(2, t), 100 * v + 10 * k + t};
        return what >= 0 && what < 10 ? all[what] : NONE;
    }

    public int block(int block) {
        Integer bits = bitsOf(block);
        return bits == null ? NONE : bits;
    }

    public int number(int set) {
        if (!isSet(set, 0, v)) {
            return NONE;
        }
        return row.containsKey(set) ? blocks().indexOf(set) : ABSENT;
    }

    public int of(int block, int what) {
        Integer bits = bitsOf(block);
        if (bits == null || what < 0 || what > 2) {
            return NONE;
        }
        return what == 0 ? 100 + row.get(bits) : (what == 1 ? design : kept).contains(bits) ? 1 : 0;
    }

    public int sum(int set) {
        return isSet(set, 0, k) ? 10000 + sumOf(row, set) : NONE;
    }

    public int amiss() {
        return sets(0, t).stream().filter(set -> sumOf(row, set) != 0).findFirst().orElse(ABSENT);
    }

    public int cover(int set) {
        return isSet(set, 0, k) ? coverOf(set) : NONE;
    }

    public int written(int i) {
        StringBuilder all = new StringBuilder();
        row.forEach((bits, count) -> {
            if (count != 0) {
                all.append(count < 0 ? "-" : "+").append(Math.abs(count) == 1 ? "" : Math.abs(count) + "*");
                points(bits).forEach(all::append);
            }
        });
        String whole = notZero() == 0 ? "0" : all.toString();
        return i < 0 ? NONE : i < whole.length() ? whole.charAt(i) : ABSENT;
    }

    private List<Integer> canonical() {
        return CANONICAL.computeIfAbsent(told(9), sizes -> {
            List<Integer> numbers = new ArrayList<>();
            int digits = t + k + 1;
            for (int number = (int) Math.pow(10, digits - 1); number < Math.pow(10, digits); number++) {
                if (isTwist(number) && isCanonical(Integer.toString(number))) {
                    numbers.add(number);
                }
            }
            return numbers;
        });
    }

    private boolean isCanonical(String digits) {
        for (int pair = 0; pair <= t; pair++) {
            if (digits.charAt(2 * pair) > digits.charAt(2 * pair + 1)) {
                return false;
            }
            if (pair > 0 && digits.charAt(2 * pair - 2) > digits.charAt(2 * pair)) {
                return false;
            }
        }
        return true;
    }

    public int open(int what) {
        if (what < 0 || what > 2) {
            return NONE;
        }
        List<int[]> open = new ArrayList<>();
        for (int number : canonical()) {
            for (int n = -1; n <= 1; n += 2) {
                if (mayBeSwapped(signs(number), n)) {
                    open.add(new int[] {number, n + 1});
                }
            }
        }
        return what == 0 ? open.size() : open.isEmpty() ? ABSENT : open.get(0)[what - 1];
    }

    private boolean mayBeSwapped(Map<Integer, Integer> signs, int times) {
        boolean goesAndComes = signs.entrySet().stream()
                .allMatch(sign -> design.contains(sign.getKey()) == times * sign.getValue() < 0);
        if (!goesAndComes) {
            return false;
        }
        SortedMap<Integer, Integer> counts = rowOfNone();
        signs.forEach((bits, sign) -> counts.put(bits, times * sign));
        return mayBeSwapped(counts);
    }

    /** The ways, each told as a row of parts, the least first. */
    private List<String> ways(int m) {
        return PARTINGS.computeIfAbsent(told(9) + " " + m, key -> {
            List<Integer> blocks = blocks();
            int through = (int) blocks.stream().filter(bits -> points(bits).containsAll(points((1 << t) - 1))).count();
            List<Integer> designs = new ArrayList<>();
            for (int mask = 0; mask < 1 << blocks.size() && through % m == 0; mask++) {
                if (hasIndex(blocks, mask, through / m)) {
                    designs.add(mask);
                }
            }
            List<String> ways = new ArrayList<>();
            partInto(m, blocks.size(), designs, new ArrayList<>(), ways);
            Collections.sort(ways);
            return ways;
        });
    }

    private boolean hasIndex(List<Integer> blocks, int mask, int index) {
        for (int set : sets(t, t)) {
            int cover = 0;
            for (int block = 0; block < blocks.size(); block++) {
                cover += (mask >> block & 1) != 0 && (blocks.get(block) & set) == set ? 1 : 0;
            }
            if (cover != index) {
                return false;
            }
        }
        return true;
    }

    private static void partInto(int m, int many, List<Integer> designs, List<Integer> chosen, List<String> ways) {
        int used = chosen.stream().mapToInt(mask -> mask).sum();
        int all = (1 << many) - 1;
        if (chosen.size() == m) {
            if (used == all) {
                ways.add(wayOf(many, chosen));
            }
            return;
        }
        int least = Integer.lowestOneBit(all & ~used);
        for (int mask : designs) {
            if ((mask & used) == 0 && (mask & least) != 0) {
                chosen.add(mask);
                partInto(m, many, designs, chosen, ways);
                chosen.remove(chosen.size() - 1);
            }
        }
    }

    private static String wayOf(int many, List<Integer> chosen) {
        StringBuilder way = new StringBuilder();
        for (int block = 0; block < many; block++) {
            for (int part = 0; part < chosen.size(); part++) {
                way.append((chosen.get(part) >> block & 1) != 0 ? Integer.toString(part) : "");
            }
        }
        return way.toString();
    }

    public int parted(int m) {
        if (m < 2 || m > 6) {
            return BAD;
        }
        if (row.size() > 20 || (t != k - 1 && row.size() > 10)) {
            return STATE;
        }
        return ways(m).size();
    }

    public int part(int m, int block) {
        if (bitsOf(block) == null) {
            return NONE;
        }
        int ways = parted(m);
        return ways < 0 ? ways : ways == 0 ? ABSENT : ways(m).get(0).charAt(block) - '0';
    }

    private static int add(List<int[]> rows, int most, int one, int other) {
        if (rows.size() == most) {
            return FULL;
        }
        rows.add(new int[] {one, other});
        return rows.size();
    }

    public int see(int set, int sum) {
        if (set == -1) {
            seen.clear();
            return 0;
        }
        if (!isSet(set, 0, t)) {
            return NONE;
        }
        return Math.abs((long) sum) > 999 ? BAD : add(seen, 4, set, sum);
    }

    public int fits(int block, int what) {
        Integer bits = bitsOf(block);
        if (bits == null || what < 0 || what > 1) {
            return NONE;
        }
        List<Integer> fit = new ArrayList<>();
        for (int c = -9; c <= 9; c++) {
            SortedMap<Integer, Integer> then = new TreeMap<>(row);
            then.put(bits, c);
            if (seen.stream().allMatch(told -> isSet(told[0], 0, t) && sumOf(then, told[0]) == told[1])) {
                fit.add(c);
            }
        }
        return fit.isEmpty() ? 0 : what == 0 ? fit.size() : 10 + fit.get(0);
    }

    private static long fraction(int above, int below, int part) {
        if (below == 0 || part < 0 || part > 1) {
            return NO;
        }
        long common = BigInteger.valueOf(above).gcd(BigInteger.valueOf(below)).longValue();
        return (part == 0 ? above : below) / common;
    }

    public long odds(int set, int part) {
        if (!isSet(set, 0, k)) {
            return NO;
        }
        int all = (int) row.keySet().stream().filter(bits -> points(bits).containsAll(points(set))).count();
        return fraction(coverOf(set), all, part);
    }

    public long mean(int part) {
        return fraction(volume(), notZero(), part);
    }

    public int event(int what, int n) {
        if (what == -1) {
            events.clear();
            return 0;
        }
        if (what < 0 || what > 4 || (what > 2 && bitsOf(n) == null)) {
            return NONE;
        }
        if (what == 0 ? !isTwist(n) : what < 3 && n != 0) {
            return BAD;
        }
        return add(events, 8, what, n);
    }

    public int after(int what) {
        Model then = copy();
        for (int[] event : events) {
            Integer bits = then.bitsOf(event[1]);
            switch (event[0]) {
                case 0:
                    then.twist(event[1], 1);
                    break;
                case 1:
                    then.turn();
                    break;
                case 2:
                    then.swap();
                    break;
                case 3:
                    then.put(event[1], bits != null && then.design.contains(bits) ? 0 : 1);
                    break;
                default:
                    then.count(event[1], bits == null ? 0 : then.row.get(bits) + 1);
                    break;
            }
        }
        return what == 0 ? then.volume() : what == 1 ? then.design.size() : what == 2 ? then.index() : NONE;
    }

    public int book(int block, int c) {
        if (block == -1) {
            booked.clear();
            return 0;
        }
        if (bitsOf(block) == null) {
            return NONE;
        }
        return c > 99 || c < -99 ? BAD : add(booked, 8, block, c);
    }

    public int looked() {
        for (int[] told : booked) {
            if (of(told[0], 0) != told[1] + 100) {
                return booked.indexOf(told);
            }
        }
        return ABSENT;
    }

    public int judge(int tape, int i) {
        if (tape < 0 || tape > 5) {
            return NONE;
        }
        if (tapes[tape] == null) {
            return 100;
        }
        if (!(tapes[tape] instanceof byte[])) {
            return -12;
        }
        byte[] told = (byte[]) tapes[tape];
        int looked = 0;
        for (int count : row.values()) {
            if (i < 0 || (long) i + looked >= told.length) {
                return 100 + looked;
            }
            if (told[i + looked] != count) {
                return looked;
            }
            looked++;
        }
        return ABSENT;
    }

    public int image() {
        taken = copy();
        return design.size();
    }

    public int undo() {
        if (taken == null) {
            return STATE;
        }
        takeFrom(taken);
        return design.size();
    }

    public int counted(int what) {
        int[] all = {seen.size(), events.size(), booked.size(), text.length()};
        return what >= 0 && what < 4 ? all[what] : BAD;
    }

    public int tape(int tape, int sort, int n) {
        if (tape < 0 || tape > 5) {
            return NONE;
        }
        Class<?>[] sorts = {byte.class, short.class, int.class, long.class, boolean.class};
        if (sort < -1 || sort > 4 || (sort >= 0 && n > 60)) {
            return BAD;
        }
        try {
            tapes[tape] = sort == -1 ? null : Array.newInstance(sorts[sort], n);
        } catch (NegativeArraySizeException refused) {
            return -14;
        }
        return 1;
    }

    public int item(int tape, int i, long v) {
        if (tape < 0 || tape > 5) {
            return NONE;
        }
        Object items = tapes[tape];
        if (items == null) {
            return -11;
        }
        try {
            if (items instanceof byte[]) {
                ((byte[]) items)[i] = (byte) v;
            } else if (items instanceof short[]) {
                ((short[]) items)[i] = (short) v;
            } else if (items instanceof int[]) {
                ((int[]) items)[i] = (int) v;
            } else if (items instanceof long[]) {
                ((long[]) items)[i] = v;
            } else {
                ((boolean[]) items)[i] = v != 0;
            }
        } catch (ArrayIndexOutOfBoundsException refused) {
            return -13;
        }
        return 1;
    }

    public long peek(int tape, int i) {
        if (tape < 0 || tape > 5 || tapes[tape] == null || i < 0 || i >= Array.getLength(tapes[tape])) {
            return NO;
        }
        Object item = Array.get(tapes[tape], i);
        return item instanceof Boolean ? (Boolean) item ? 1 : 0 : ((Number) item).longValue();
    }

    @SuppressWarnings("SuspiciousSystemArraycopy")
    public int shift(int tape, int i, int other, int j, int n) {
        if (tape < 0 || tape > 5 || other < 0 || other > 5) {
            return NONE;
        }
        try {
            System.arraycopy(tapes[tape], i, tapes[other], j, n);
        } catch (NullPointerException refused) {
            return -11;
        } catch (ArrayStoreException refused) {
            return -12;
        } catch (ArrayIndexOutOfBoundsException refused) {
            return -13;
        }
        return n;
    }
}
