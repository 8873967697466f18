import java.math.BigInteger;
import java.util.ArrayDeque;
import java.util.ArrayList;
import java.util.Arrays;
import java.util.Deque;
import java.util.List;
import java.util.Set;
import java.util.TreeSet;

/** The document's calls once more, each in the plainest way: by sets and lists, by trying all. */
final class Model {
    static final long LOAF = 2_329_089_562_800L;

    /** All rows of 1 to 5 unlike SLICES, the fewer ahead, then the first ones. */
    private static final List<int[]> ROWS = new ArrayList<>();

    static {
        for (int size = 1; size <= 5; size++) {
            addRows(new int[size], 0, 1);
        }
    }

    private static void addRows(int[] row, int placed, int from) {
        if (placed == row.length) {
            ROWS.add(row.clone());
            return;
        }
        for (int slice = from; slice <= 30; slice++) {
            row[placed] = slice;
            addRows(row, placed + 1, slice + 1);
        }
    }

    /** A MAN; a NAME of "" is none. */
    private static final class Man {
        private String name = "";
        private int p;
        private int q;
        private Set<Integer> has = new TreeSet<>();

        private Man(String name, int p, int q) {
            this.name = name;
            this.p = p;
            this.q = q;
        }

        private Man copy() {
            Man copy = new Man(name, p, q);
            copy.has.addAll(has);
            return copy;
        }

        private long holds() {
            return has.stream().mapToLong(slice -> LOAF / slice).sum();
        }

        private long lacks() {
            return p * (LOAF / q) - holds();
        }
    }

    /** What a MARK keeps. */
    private static final class Kept {
        private int[] stock = new int[31];
        private List<Man> men = new ArrayList<>();
        private Set<Integer> known = slicesOf((1 << 30) - 1);
        private int odds = 4;
        private int cuts;
        private TextModel days;

        private Kept copy() {
            Kept copy = new Kept();
            copy.stock = stock.clone();
            men.forEach(man -> copy.men.add(man.copy()));
            copy.known = new TreeSet<>(known);
            copy.odds = odds;
            copy.cuts = cuts;
            copy.days = days;
            return copy;
        }
    }

    int status;
    long top;
    long bottom = 1;
    private final long[][] trays = new long[4][];
    private final int[] sorts = new int[4];
    private final StringBuilder tape = new StringBuilder();
    private int fault = -1;
    private int faultPlace = -1;
    private Kept now = new Kept();
    private final Deque<Kept> marks = new ArrayDeque<>();
    private int[] lived;
    private int seed;
    private int steps;

    private static Set<Integer> slicesOf(int set) {
        Set<Integer> slices = new TreeSet<>();
        for (int slice = 1; slice <= 30; slice++) {
            if ((set >> (slice - 1) & 1) == 1) {
                slices.add(slice);
            }
        }
        return slices;
    }

    private static int setOf(Set<Integer> slices) {
        return Check.set(slices.stream().mapToInt(Integer::intValue).toArray());
    }

    /** The STATUS is the first one of these that holds: a number of section 5 is told where it does, else 0. */
    private boolean is(int... statuses) {
        status = Arrays.stream(statuses).filter(s -> s != 0).findFirst().orElse(0);
        return status == 0;
    }

    private static int if_(boolean holds, int number) {
        return holds ? number : 0;
    }

    private static int slice(int slice) {
        return if_(slice < 1 || slice > 30, 2);
    }

    private int man(int man) {
        return if_(man < 0 || man >= now.men.size(), 2);
    }

    private static int share(int p, int q) {
        return if_(p < 1 || p > 99 || q < 1 || q > 30, 5);
    }

    private static int within(long n, long least, long most) {
        return if_(n < least || n > most, 5);
    }

    private static int tray(int tray) {
        return if_(tray < 0 || tray > 3, 1);
    }

    private int missing(int tray) {
        return if_(tray(tray) == 0 && trays[tray] == null, 3);
    }

    private int places(int tray, long from, long many) {
        boolean there = tray(tray) == 0 && trays[tray] != null;
        return if_(there && (from < 0 || from + Math.max(0, many) > trays[tray].length), 4);
    }

    private static long one(boolean is) {
        return is ? 1 : 0;
    }

    private long fraction(long a, long b) {
        long divisor = BigInteger.valueOf(a).gcd(BigInteger.valueOf(b)).longValue();
        top = a / divisor;
        bottom = b / divisor;
        return 1;
    }

    long tray(int tray, int sort, int many) {
        if (is(tray(tray), if_(sort < 0 || sort > 3, 1), if_(many > 60, 5), if_(many < 0, 6))) {
            trays[tray] = new long[many];
            sorts[tray] = sort;
        }
        return one(status == 0);
    }

    private void put(int tray, int place, long v) {
        int lost = 64 - (8 << sorts[tray]);
        trays[tray][place] = v << lost >> lost;
    }

    long write(int tray, int place, long v) {
        if (is(tray(tray), missing(tray), places(tray, place, 1))) {
            put(tray, place, v);
        }
        return one(status == 0);
    }

    long read(int tray, int place) {
        return is(tray(tray), missing(tray), places(tray, place, 1)) ? trays[tray][place] : -1;
    }

    long pour(int tray, int i, int to, int j, int many) {
        boolean alike = tray(tray) + tray(to) > 0 || sorts[tray] == sorts[to];
        if (is(tray(tray), tray(to), missing(tray), missing(to), if_(!alike, 11), if_(many < 0, 6),
                places(tray, i, many), places(to, j, many))) {
            long[] poured = Arrays.copyOfRange(trays[tray], i, i + many);
            for (int k = 0; k < many; k++) {
                trays[to][j + k] = poured[k];
            }
        }
        return one(status == 0);
    }

    long feed(String twenty) {
        if (tape.length() + 20 > 900) {
            return -1;
        }
        tape.append(twenty);
        return tape.length();
    }

    private String takeTape(int n) {
        String text = tape.substring(0, n);
        tape.setLength(0);
        return text;
    }

    private boolean isRead(TextModel text) {
        fault = text.fault;
        faultPlace = text.place;
        return is(if_(text.fault != 0, 10));
    }

    long bakery(int n) {
        if (!is(within(n, 0, tape.length()))) {
            return -1;
        }
        TextModel text = TextModel.bakery(takeTape(n));
        if (!isRead(text)) {
            return -1;
        }
        now = new Kept();
        for (int i = 0; i < text.tokens.size(); i++) {
            readPart(text, i);
        }
        return now.men.size();
    }

    private void readPart(TextModel text, int i) {
        Man latest = now.men.isEmpty() ? null : now.men.get(now.men.size() - 1);
        switch (text.kind(i)) {
            case 'O':
                now.odds = text.number(i + 1);
                break;
            case 'S':
                now.stock[text.number(i + 1)] = text.kind(i + 2) == 'T' ? text.number(i + 3) : 1;
                break;
            case 'M':
                now.men.add(new Man(text.tokens.get(i + 1), text.number(i + 3), text.number(i + 5)));
                break;
            case 'H':
                latest.has = numbersBehind(text, i);
                break;
            case 'K':
                now.known = numbersBehind(text, i);
                break;
            default:
        }
    }

    private static Set<Integer> numbersBehind(TextModel text, int i) {
        Set<Integer> numbers = new TreeSet<>();
        for (int j = i + 1; text.kind(j) == '0'; j++) {
            numbers.add(text.number(j));
        }
        return numbers;
    }

    private List<String> names() {
        List<String> names = new ArrayList<>();
        now.men.forEach(man -> names.add(man.name));
        return names;
    }

    long days(int n) {
        if (!is(within(n, 0, Math.min(300, tape.length())))) {
            return -1;
        }
        TextModel text = TextModel.days(takeTape(n), names());
        if (!isRead(text)) {
            return -1;
        }
        now.days = text;
        return text.kinds.chars().filter(c -> "CPGAEYWRX".indexOf(c) >= 0).count();
    }

    long fault(int what) {
        return what == 0 ? fault : what == 1 ? faultPlace : -1;
    }

    long many(int what) {
        if (!is(within(what, 0, 6))) {
            return -1;
        }
        int even = 0;
        for (int man = 0; man < now.men.size(); man++) {
            even += now.men.get(man).lacks() == 0 ? 1 << man : 0;
        }
        long sorts = Arrays.stream(now.stock).filter(many -> many > 0).count();
        return new long[] {now.men.size(), pieces(), sorts, now.odds, setOf(now.known), now.cuts, even}[what];
    }

    private long pieces() {
        return Arrays.stream(now.stock).sum();
    }

    long store(int slice) {
        return is(slice(slice)) ? now.stock[slice] : -1;
    }

    long man(int man, int what) {
        if (!is(man(man), within(what, 0, 2))) {
            return -1;
        }
        Man he = now.men.get(man);
        return new int[] {he.p, he.q, setOf(he.has)}[what];
    }

    long has(int man) {
        return is(man(man)) ? fraction(now.men.get(man).holds(), LOAF) : 0;
    }

    long lacks(int man) {
        return is(man(man)) ? fraction(now.men.get(man).lacks(), LOAF) : 0;
    }

    long worth() {
        is();
        long all = 0;
        for (int slice = 1; slice <= 30; slice++) {
            all += now.stock[slice] * (LOAF / slice);
        }
        return fraction(all, LOAF);
    }

    long copyStore(int tray, int n) {
        if (!is(tray(tray), missing(tray), places(tray, 0, n), within(n, 0, 30))) {
            return -1;
        }
        for (int slice = 1; slice <= n; slice++) {
            put(tray, slice - 1, now.stock[slice]);
        }
        return n;
    }

    long bake(int n) {
        if (!is(within(n, 1, 99), if_(now.stock[1] + (long) n > 99, 7))) {
            return -1;
        }
        return now.stock[1] += n;
    }

    /** The STORE as if a SLICE was gone and these have come. */
    private int[] parted(int slice, int... parts) {
        int[] next = now.stock.clone();
        next[slice]--;
        for (int part : parts) {
            next[part]++;
        }
        return next;
    }

    private boolean isOver(int[] next, int... parts) {
        return Arrays.stream(parts).anyMatch(part -> next[part] > 99);
    }

    long cut(int slice, int a, int b) {
        if (!is(slice(slice), slice(a), slice(b))) {
            return -1;
        }
        int[] next = parted(slice, a, b);
        boolean isSo = LOAF / a + LOAF / b == LOAF / slice;
        return part(next, if_(isOver(next, a, b), 7), if_(now.stock[slice] == 0 || !isSo, 9));
    }

    long split(int slice, int by) {
        if (!is(slice(slice), within(by, 2, 30))) {
            return -1;
        }
        int[] parts = new int[slice * by > 30 ? 0 : by];
        Arrays.fill(parts, slice * by);
        int[] next = parted(slice, parts);
        return part(next, if_(isOver(next, parts), 7), if_(now.stock[slice] == 0 || slice * by > 30, 9));
    }

    private long part(int[] next, int... statuses) {
        if (!is(statuses)) {
            return -1;
        }
        now.stock = next;
        now.cuts++;
        return pieces();
    }

    long give(int man, int slice) {
        if (!is(man(man), slice(slice))) {
            return -1;
        }
        Set<Integer> has = now.men.get(man).has;
        if (!is(if_(now.stock[slice] == 0, 9), if_(has.contains(slice), 9))) {
            return -1;
        }
        now.stock[slice]--;
        has.add(slice);
        return has.size();
    }

    long take(int man, int slice) {
        if (!is(man(man), slice(slice))) {
            return -1;
        }
        Set<Integer> has = now.men.get(man).has;
        if (!is(if_(now.stock[slice] == 99, 7), if_(!has.contains(slice), 9))) {
            return -1;
        }
        now.stock[slice]++;
        has.remove(slice);
        return has.size();
    }

    long owe(int man, int p, int q) {
        if (is(man(man), share(p, q))) {
            now.men.get(man).p = p;
            now.men.get(man).q = q;
        }
        return one(status == 0);
    }

    long come(int p, int q) {
        if (!is(share(p, q), if_(now.men.size() == 6, 7))) {
            return -1;
        }
        now.men.add(new Man("", p, q));
        return now.men.size() - 1;
    }

    long learn(int slice, boolean is) {
        if (is(slice(slice), if_(now.known.contains(slice) == is, 9)) && is) {
            now.known.add(slice);
        } else if (status == 0) {
            now.known.remove(slice);
        }
        return one(status == 0);
    }

    long rule(int odds) {
        if (is(within(odds, 0, 16))) {
            now.odds = odds;
        }
        return one(status == 0);
    }

    private static boolean make(int[] row, Set<Integer> of, long crumbs) {
        long sum = 0;
        for (int slice : row) {
            sum += LOAF / slice;
        }
        return sum == crumbs && Arrays.stream(row).allMatch(of::contains);
    }

    private static List<int[]> rows(Set<Integer> of, long crumbs) {
        List<int[]> rows = new ArrayList<>();
        for (int[] row : ROWS) {
            if (make(row, of, crumbs)) {
                rows.add(row);
            }
        }
        return rows;
    }

    private List<int[]> rows(int p, int q) {
        return share(p, q) == 0 ? rows(now.known, p * (LOAF / q)) : List.of();
    }

    private List<int[]> rows(int p, int q, int k) {
        List<int[]> rows = rows(p, q);
        rows.removeIf(row -> row.length != k);
        return rows;
    }

    long fewest(int p, int q) {
        List<int[]> rows = rows(p, q);
        return is(share(p, q), if_(rows.isEmpty(), 8)) ? rows.get(0).length : -1;
    }

    private long kth(int[] row, int k) {
        return is(if_(row == null || k < 0 || k >= row.length, 8)) ? row[k] : -1;
    }

    long fewestAt(int p, int q, int k) {
        List<int[]> rows = rows(p, q);
        return is(share(p, q)) ? kth(rows.isEmpty() ? null : rows.get(0), k) : -1;
    }

    long kindestAt(int p, int q, int k) {
        int[] best = null;
        for (int[] row : rows(p, q)) {
            best = best == null || row[row.length - 1] < best[best.length - 1] ? row : best;
        }
        return is(share(p, q)) ? kth(best, k) : -1;
    }

    long ways(int p, int q, int k) {
        return is(share(p, q), within(k, 1, 5)) ? rows(p, q, k).size() : -1;
    }

    private static long with(List<int[]> rows, int slice) {
        return rows.stream().filter(row -> Arrays.stream(row).anyMatch(one -> one == slice)).count();
    }

    long oddsThat(int p, int q, int k, int slice) {
        if (!is(slice(slice), share(p, q), within(k, 1, 5))) {
            return 0;
        }
        List<int[]> rows = rows(p, q, k);
        return is(if_(rows.isEmpty(), 8)) ? fraction(with(rows, slice), rows.size()) : 0;
    }

    long ask(int p, int q, int k) {
        if (!is(share(p, q), within(k, 1, 5))) {
            return -1;
        }
        List<int[]> rows = rows(p, q, k);
        int best = -1;
        long least = Long.MAX_VALUE;
        for (int slice : now.known) {
            long greater = Math.max(with(rows, slice), rows.size() - with(rows, slice));
            best = greater < least ? slice : best;
            least = Math.min(least, greater);
        }
        return is(if_(rows.size() < 2, 8)) ? best : -1;
    }

    long greedyAt(int p, int q, int k) {
        if (!is(share(p, q), if_(p >= q, 5))) {
            return -1;
        }
        List<BigInteger> row = new ArrayList<>();
        BigInteger a = BigInteger.valueOf(p);
        BigInteger b = BigInteger.valueOf(q);
        while (a.signum() > 0) {
            BigInteger number = b.add(a).subtract(BigInteger.ONE).divide(a);
            row.add(number);
            a = a.multiply(number).subtract(b);
            b = b.multiply(number);
        }
        if (!is(if_(k < 0 || k >= row.size(), 8))) {
            return -1;
        }
        boolean isGreat = row.subList(0, k + 1).stream().anyMatch(n -> n.compareTo(BigInteger.valueOf(100_000_000)) > 0);
        return is(if_(isGreat, 9)) ? row.get(k).longValue() : -1;
    }

    /** Each place and its FIX; null where the STATUS is another one than 0. */
    private List<int[]> slipsOf(int tray, int n, int p, int q, int what) {
        if (!is(tray(tray), missing(tray), places(tray, 0, n), within(n, 1, 8), share(p, q))) {
            return null;
        }
        long[] told = Arrays.copyOf(trays[tray], n);
        if (!is(if_(Arrays.stream(told).anyMatch(number -> number < 1 || number > 30), 5), within(what, 0, 1))) {
            return null;
        }
        List<int[]> slips = new ArrayList<>();
        for (int place = 0; place < n && !isRow(told, p, q); place++) {
            for (int fix = 1; fix <= 30; fix++) {
                long[] mended = told.clone();
                mended[place] = fix;
                if (isRow(mended, p, q)) {
                    slips.add(new int[] {place, fix});
                }
            }
        }
        return slips;
    }

    private boolean isRow(long[] told, int p, int q) {
        int[] row = Arrays.stream(told).mapToInt(number -> (int) number).distinct().toArray();
        return row.length == told.length && make(row, now.known, p * (LOAF / q));
    }

    long slips(int tray, int n, int p, int q) {
        List<int[]> slips = slipsOf(tray, n, p, q, 0);
        return slips == null ? -1 : slips.size();
    }

    long slipAt(int tray, int n, int p, int q, int k, int what) {
        List<int[]> slips = slipsOf(tray, n, p, q, what);
        return slips != null && is(if_(k < 0 || k >= slips.size(), 8)) ? slips.get(k)[what] : -1;
    }

    /** The chain of the fewest, of several the first: chains grow from the STORE, in order; null without one. */
    private int[] chain(int slice) {
        List<int[]> chains = new ArrayList<>();
        for (int held = 1; held <= 30; held++) {
            if (now.stock[held] > 0) {
                chains.add(new int[] {held});
            }
        }
        Set<Integer> come = new TreeSet<>();
        for (int i = 0; i < chains.size(); i++) {
            int[] chain = chains.get(i);
            int last = chain[chain.length - 1];
            if (last == slice) {
                return chain;
            }
            if (come.add(last)) {
                for (int part = 1; part <= 30; part++) {
                    if (comesOf(part, last)) {
                        int[] longer = Arrays.copyOf(chain, chain.length + 1);
                        longer[chain.length] = part;
                        chains.add(longer);
                    }
                }
            }
        }
        return null;
    }

    private static boolean comesOf(int part, int slice) {
        for (int n = 2; n <= 30; n++) {
            if (slice * n == part || LOAF / part + LOAF / n == LOAF / slice) {
                return true;
            }
        }
        return false;
    }

    long reach(int slice) {
        if (!is(slice(slice))) {
            return -1;
        }
        int[] chain = chain(slice);
        return is(if_(chain == null, 8)) ? chain.length - 1 : -1;
    }

    long reachAt(int slice, int k) {
        return is(slice(slice)) ? kth(chain(slice), k) : -1;
    }

    private int[] filling(int man) {
        Man he = now.men.get(man);
        Set<Integer> gifts = new TreeSet<>();
        for (int slice = 1; slice <= 30; slice++) {
            if (now.stock[slice] > 0 && !he.has.contains(slice)) {
                gifts.add(slice);
            }
        }
        List<int[]> rows = rows(gifts, he.lacks());
        return he.lacks() == 0 ? new int[0] : rows.isEmpty() ? null : rows.get(0);
    }

    long fill(int man) {
        if (!is(man(man))) {
            return -1;
        }
        int[] filling = filling(man);
        return is(if_(filling == null, 8)) ? filling.length : -1;
    }

    long fillAt(int man, int k) {
        return is(man(man)) ? kth(filling(man), k) : -1;
    }

    private static int set(int set) {
        return if_(set < 0 || set >= 1 << 30 || Integer.bitCount(set) > 12, 5);
    }

    /** The first SLICE by which who is to put one wins, 0 without one. */
    private static int winning(Set<Integer> left, long room) {
        for (int slice : left) {
            if (LOAF / slice <= room) {
                Set<Integer> others = new TreeSet<>(left);
                others.remove(slice);
                if (winning(others, room - LOAF / slice) == 0) {
                    return slice;
                }
            }
        }
        return 0;
    }

    long plate(int set) {
        return is(set(set)) ? one(winning(slicesOf(set), LOAF) > 0) : -1;
    }

    long plateMove(int set) {
        if (!is(set(set))) {
            return -1;
        }
        int move = winning(slicesOf(set), LOAF);
        return is(if_(move == 0, 8)) ? move : -1;
    }

    long luck(int set, int k, int p, int q) {
        if (!is(set(set), within(k, 0, 12), share(p, q), if_(Integer.bitCount(set) < k, 8))) {
            return 0;
        }
        long all = 0;
        long some = 0;
        List<Integer> slices = new ArrayList<>(slicesOf(set));
        for (int part = 0; part < 1 << slices.size(); part++) {
            long sum = 0;
            for (int i = 0; i < slices.size(); i++) {
                sum += (part >> i & 1) * (LOAF / slices.get(i));
            }
            all += Integer.bitCount(part) == k ? 1 : 0;
            some += Integer.bitCount(part) == k && sum <= p * (LOAF / q) ? 1 : 0;
        }
        return fraction(some, all);
    }

    long burnt(int n, int k) {
        if (!is(within(n, 0, 12), within(k, 0, 12))) {
            return 0;
        }
        long some = 0;
        for (int loaves = 0; loaves < 1 << n; loaves++) {
            long cases = Integer.bitCount(loaves) >= k ? 1 : 0;
            for (int i = 0; i < n; i++) {
                cases *= (loaves >> i & 1) == 1 ? now.odds : 16 - now.odds;
            }
            some += cases;
        }
        return fraction(some, 1L << 4 * n);
    }

    long live(int from) {
        if (!is(within(from, 0, 9_999), if_(now.days == null, 8))) {
            return -1;
        }
        lived = new int[5];
        return liveAll(from, lived);
    }

    private int liveAll(int from, int[] told) {
        seed = from;
        steps = 0;
        liveFrom(0, told);
        return steps;
    }

    /** Lives the STEPS from a TOKEN on to the end of their block; false if that was the last of all. */
    private boolean liveFrom(int from, int[] told) {
        TextModel days = now.days;
        for (int at = from; at < days.tokens.size() && days.kind(at) != 'Z'; at = behindStep(at)) {
            if (steps == 300) {
                told[4] = 1;
                return false;
            }
            steps++;
            char kind = days.kind(at);
            if (kind == 'X') {
                return false;
            }
            int times = kind == 'R' ? days.number(at + 1) : kind == 'W' && isTrue(at + 1) ? 1 : 0;
            for (int i = 0; i < times; i++) {
                if (!liveFrom(days.kinds.indexOf(";", at) + 1, told)) {
                    return false;
                }
            }
            if (kind != 'R' && kind != 'W' && !isDone(kind, at, told)) {
                told[0]++;
            }
        }
        return true;
    }

    /** The TOKEN behind a STEP's last one. */
    private int behindStep(int from) {
        int open = 0;
        int at = from;
        do {
            char kind = now.days.kind(at);
            open += kind == 'R' || kind == 'W' ? 1 : kind == 'Z' ? -1 : 0;
            at = now.days.kinds.indexOf(";", at) + 1;
        } while (open > 0);
        return at;
    }

    private Man named(int at) {
        String name = now.days.tokens.get(at);
        return now.men.get(names().indexOf(name));
    }

    private boolean isTrue(int at) {
        TextModel days = now.days;
        if (days.kind(at) == 'V') {
            return named(at + 1).lacks() == 0;
        }
        boolean isStore = days.kind(at) == 'L';
        long a = isStore ? now.stock[days.number(at + 1)] : named(at + 1).lacks();
        long b = days.number(at + 3) * (isStore ? 1 : LOAF);
        String compares = days.tokens.get(at + 2);
        return compares.equals(a < b ? "<" : a > b ? ">" : "=");
    }

    /** Does what a STEP tells by the calls themselves, which change nothing where it can't be. */
    private boolean isDone(char kind, int at, int[] told) {
        TextModel days = now.days;
        int kept = status;
        boolean done;
        switch (kind) {
            case 'C':
                done = cut(days.number(at + 1), days.number(at + 2), days.number(at + 3)) >= 0;
                told[1] += done ? 1 : 0;
                break;
            case 'P':
                done = split(days.number(at + 1), days.number(at + 2)) >= 0;
                told[1] += done ? 1 : 0;
                break;
            case 'G':
                done = give(names().indexOf(days.tokens.get(at + 1)), days.number(at + 2)) >= 0;
                told[2] += done ? 1 : 0;
                break;
            case 'A':
                done = take(names().indexOf(days.tokens.get(at + 1)), days.number(at + 2)) >= 0;
                break;
            case 'E':
                done = bake(days.number(at + 1)) >= 0;
                told[3] += done ? days.number(at + 1) : 0;
                break;
            default:
                done = !now.men.isEmpty() && isAnyDone(told);
        }
        status = kept;
        return done;
    }

    private boolean isAnyDone(int[] told) {
        int man = draw(now.men.size());
        int slice = draw(30) + 1;
        boolean isSplit = draw(16) < now.odds;
        boolean done = isSplit ? split(slice, 2) >= 0 : give(man, slice) >= 0;
        told[isSplit ? 1 : 2] += done ? 1 : 0;
        return done;
    }

    private int draw(int n) {
        seed = (int) ((seed * 2_971L + 10_993L) % 65_536L);
        return seed / 8 % n;
    }

    long lived(int what) {
        return is(within(what, 0, 4), if_(lived == null, 8)) ? lived[what] : -1;
    }

    long mean(int from, int many) {
        if (!is(within(from, 0, 9_999), within(many, 1, 20), within((long) from + many - 1, 0, 9_999),
                if_(now.days == null, 8))) {
            return 0;
        }
        Kept kept = now;
        long all = 0;
        for (int i = 0; i < many; i++) {
            now = kept.copy();
            liveAll(from + i, new int[5]);
            all += now.men.stream().mapToLong(Man::holds).sum();
        }
        now = kept;
        return fraction(all, LOAF * many);
    }

    long mark() {
        if (!is(if_(marks.size() == 3, 7))) {
            return -1;
        }
        marks.push(now.copy());
        return marks.size();
    }

    long back() {
        if (!is(if_(marks.isEmpty(), 8))) {
            return -1;
        }
        now = marks.pop();
        return marks.size();
    }
}
