import java.util.Arrays;

/**
 * A bakers' scribe: loaves cut into parts, men with dues that are fractions of loaves and who take
 * unlike parts only. All parts are counted in crumbs, of which a loaf has so many that each SLICE
 * is a whole number of them; so every sum is exact.
 */
public final class BreadScribes {
    public static final int NONE = -1;

    private static final int SLICES = 30;
    private static final int ALL_SLICES = (1 << SLICES) - 1;
    private static final long LOAF = 2_329_089_562_800L; // the least number that 1 to 30 divide
    private static final int STOCK_LIMIT = 99;
    private static final int MEN_LIMIT = 6;
    private static final int ROW_LIMIT = 5;
    private static final int SET_LIMIT = 12;
    private static final int TOLD_LIMIT = 8;
    private static final int MARK_LIMIT = 3;
    private static final int TRAYS = 4;
    private static final int TRAY_LIMIT = 60;
    private static final int TAPE_LIMIT = 900;
    private static final int DAYS_TEXT_LIMIT = 300;
    private static final int STEP_LIMIT = 30;
    private static final int LIVED_LIMIT = 300;
    private static final int SEED_LIMIT = 9_999;
    private static final int SEEDS_LIMIT = 20;
    private static final int BURN_LIMIT = 12;
    private static final int SIXTEENTHS = 16;
    private static final int GREEDY_LIMIT = 100_000_000;

    // What STATUS tells.
    private static final int FINE = 0;
    private static final int NO_TRAY = 1;
    private static final int NO_MAN_OR_SLICE = 2;
    private static final int MISSING = 3;
    private static final int NO_PLACE = 4;
    private static final int BAD_NUMBER = 5;
    private static final int BELOW_ZERO = 6;
    private static final int TOO_MANY = 7;
    private static final int THERE_IS_NONE = 8;
    private static final int CANNOT_BE = 9;
    private static final int FAULTY = 10;
    private static final int UNLIKE_SORTS = 11;

    // The WORDS that are no NAMES; each one's number is its place in RESERVED, from 1 on.
    private static final String RESERVED =
            "odds store times man due by has known cut split give take bake any when even holds lacks loop end stop";
    private static final int RESERVED_COUNT = 21;
    private static final int FREE_WORD = 0;
    private static final int ODDS = 1;
    private static final int STORE = 2;
    private static final int TIMES = 3;
    private static final int MAN = 4;
    private static final int DUE = 5;
    private static final int BY = 6;
    private static final int HAS = 7;
    private static final int KNOWN = 8;
    private static final int CUT = 9;
    private static final int SPLIT = 10;
    private static final int GIVE = 11;
    private static final int TAKE = 12;
    private static final int BAKE = 13;
    private static final int ANY = 14;
    private static final int WHEN = 15;
    private static final int EVEN = 16;
    private static final int HOLDS = 17;
    private static final int LACKS = 18;
    private static final int LOOP = 19;
    private static final int END = 20;
    private static final int STOP = 21;

    private int outcome = FINE;
    private long toldTop = 0;
    private long toldBottom = 1;
    private final Tray[] trays = new Tray[TRAYS];
    private final Reader reader = new Reader();
    private final BakeryReader bakeryReader = new BakeryReader();
    private final DaysReader daysReader = new DaysReader();
    private Bakery now = new Bakery();
    private Bakery spare = new Bakery();
    private Days plan = new Days();
    private Days sparePlan = new Days();
    private final Bakery[] keptBakeries = new Bakery[MARK_LIMIT];
    private final Days[] keptPlans = new Days[MARK_LIMIT];
    private int marked = 0;
    private final Rows rows = new Rows();
    private final Slips told = new Slips();
    private final Reach chain = new Reach();
    private final Sums sums = new Sums();
    private final Life latest = new Life();
    private final Life trial = new Life();

    public BreadScribes() {
        for (int i = 0; i < TRAYS; i++) {
            trays[i] = new Tray();
        }
        for (int i = 0; i < MARK_LIMIT; i++) {
            keptBakeries[i] = new Bakery();
            keptPlans[i] = new Days();
        }
    }

    /** The STATUS of the latest call that has one. */
    public int status() {
        return outcome;
    }

    /** The top of the FRACTION told latest. */
    public long top() {
        return toldTop;
    }

    /** The bottom of the FRACTION told latest, above 0. */
    public long bottom() {
        return toldBottom;
    }

    // ---- TRAYS

    /** Lays a TRAY of so many numbers, all 0. */
    public boolean tray(int tray, int sort, int many) {
        if (!isTray(tray) || sort < 0 || sort > 3) {
            return deny(NO_TRAY);
        }
        if (many > TRAY_LIMIT) {
            return deny(BAD_NUMBER);
        }
        if (many < 0) {
            return deny(BELOW_ZERO);
        }
        trays[tray].lay(sort, many);
        return allow();
    }

    /** Puts a number, cut to the TRAY's sort, to a place. */
    public boolean write(int tray, int place, long v) {
        int status = placeStatus(tray, place);
        if (status != FINE) {
            return deny(status);
        }
        trays[tray].put(place, v);
        return allow();
    }

    /** The number in a place of a TRAY. */
    public long read(int tray, int place) {
        int status = placeStatus(tray, place);
        if (status != FINE) {
            return refuse(status);
        }
        outcome = FINE;
        return trays[tray].cells[place];
    }

    /** Copies numbers from one TRAY to another one, or within one, as they were. */
    public boolean pour(int tray, int i, int to, int j, int many) {
        if (!isTray(tray) || !isTray(to)) {
            return deny(NO_TRAY);
        }
        Tray from = trays[tray];
        Tray into = trays[to];
        if (from.isMissing() || into.isMissing()) {
            return deny(MISSING);
        }
        if (from.sort != into.sort) {
            return deny(UNLIKE_SORTS);
        }
        if (many < 0) {
            return deny(BELOW_ZERO);
        }
        if (!from.hasPlaces(i, many) || !into.hasPlaces(j, many)) {
            return deny(NO_PLACE);
        }
        System.arraycopy(from.cells, i, into.cells, j, many);
        return allow();
    }

    // ---- texts

    /** Puts twenty bytes behind those on the tape: how many it has, NONE if it can't take them. */
    public int feed(int a, int b, int c, int d, int e) {
        if (!reader.hasRoom(20)) {
            return NONE;
        }
        reader.append(a);
        reader.append(b);
        reader.append(c);
        reader.append(d);
        reader.append(e);
        return reader.filled;
    }

    /** The first n bytes of the tape become the BAKERY: how many MEN. */
    public int bakery(int n) {
        if (n < 0 || n > reader.filled) {
            return refuse(BAD_NUMBER);
        }
        reader.open(n);
        if (!bakeryReader.readInto(spare, reader)) {
            return refuse(FAULTY);
        }
        Bakery old = now;
        now = spare;
        spare = old;
        plan.forget();
        return answer(now.men);
    }

    /** The first n bytes of the tape become the DAYS: how many STEPS. */
    public int days(int n) {
        if (n < 0 || n > reader.filled || n > DAYS_TEXT_LIMIT) {
            return refuse(BAD_NUMBER);
        }
        reader.open(n);
        if (!daysReader.readInto(sparePlan, now, reader)) {
            return refuse(FAULTY);
        }
        Days old = plan;
        plan = sparePlan;
        sparePlan = old;
        return answer(plan.steps);
    }

    /** Of the latest text that was read: its FAULT (what 0), or the place of that (1). */
    public int fault(int what) {
        if (!reader.opened) {
            return NONE;
        }
        return what == 0 ? reader.fault : what == 1 ? reader.faultPlace : NONE;
    }

    /** A number that tells of the BAKERY as a whole. */
    public int many(int what) {
        switch (what) {
            case 0: return answer(now.men);
            case 1: return answer(now.pieces());
            case 2: return answer(Integer.bitCount(now.stockSet()));
            case 3: return answer(now.odds);
            case 4: return answer(now.known);
            case 5: return answer(now.cuts);
            case 6: return answer(now.evenMen());
            default: return refuse(BAD_NUMBER);
        }
    }

    /** How many of a SLICE the STORE holds. */
    public int store(int slice) {
        if (!isSlice(slice)) {
            return refuse(NO_MAN_OR_SLICE);
        }
        return answer(now.stock[slice]);
    }

    /** What is DUE to a MAN, as told (what 0 by what 1), or the set of SLICES that he HAS (2). */
    public int man(int man, int what) {
        if (!now.isMan(man)) {
            return refuse(NO_MAN_OR_SLICE);
        }
        switch (what) {
            case 0: return answer(now.dueTop[man]);
            case 1: return answer(now.dueBottom[man]);
            case 2: return answer(now.having[man]);
            default: return refuse(BAD_NUMBER);
        }
    }

    /** The FRACTION is all that a MAN HAS. */
    public boolean has(int man) {
        if (!now.isMan(man)) {
            return deny(NO_MAN_OR_SLICE);
        }
        return tell(now.holding(man), LOAF);
    }

    /** The FRACTION is what a MAN LACKS. */
    public boolean lacks(int man) {
        if (!now.isMan(man)) {
            return deny(NO_MAN_OR_SLICE);
        }
        return tell(now.lacking(man), LOAF);
    }

    /** The FRACTION is all that the STORE holds. */
    public boolean worth() {
        return tell(now.stockCrumbs(), LOAF);
    }

    /** What the STORE holds of SLICE 1 to n comes to a TRAY. */
    public int copyStore(int tray, int n) {
        int status = placesStatus(tray, n);
        if (status != FINE) {
            return refuse(status);
        }
        if (n < 0 || n > SLICES) {
            return refuse(BAD_NUMBER);
        }
        for (int slice = 1; slice <= n; slice++) {
            trays[tray].put(slice - 1, now.stock[slice]);
        }
        return answer(n);
    }

    // ---- what is done

    /** BAKE: how many of SLICE 1 the STORE holds then. */
    public int bake(int n) {
        int status = now.addLoaves(n);
        return status == FINE ? answer(now.stock[1]) : refuse(status);
    }

    /** CUT: how many SLICES the STORE holds then. */
    public int cut(int slice, int a, int b) {
        int status = now.cutUp(slice, a, b);
        return status == FINE ? answer(now.pieces()) : refuse(status);
    }

    /** SPLIT: how many SLICES the STORE holds then. */
    public int split(int slice, int by) {
        int status = now.splitUp(slice, by);
        return status == FINE ? answer(now.pieces()) : refuse(status);
    }

    /** GIVE: how many SLICES he HAS then. */
    public int give(int man, int slice) {
        int status = now.handOver(man, slice);
        return status == FINE ? answer(Integer.bitCount(now.having[man])) : refuse(status);
    }

    /** TAKE: how many SLICES he HAS then. */
    public int take(int man, int slice) {
        int status = now.handBack(man, slice);
        return status == FINE ? answer(Integer.bitCount(now.having[man])) : refuse(status);
    }

    /** DUE to a MAN is a SHARE from now on. */
    public boolean owe(int man, int p, int q) {
        if (!now.isMan(man)) {
            return deny(NO_MAN_OR_SLICE);
        }
        if (!isShare(p, q)) {
            return deny(BAD_NUMBER);
        }
        now.dueTop[man] = p;
        now.dueBottom[man] = q;
        return allow();
    }

    /** A MAN more to whom a SHARE is DUE: his number. */
    public int come(int p, int q) {
        if (!isShare(p, q)) {
            return refuse(BAD_NUMBER);
        }
        if (now.men >= MEN_LIMIT) {
            return refuse(TOO_MANY);
        }
        return answer(now.addMan(0L, p, q));
    }

    /** A SLICE is KNOWN, or not. */
    public boolean learn(int slice, boolean is) {
        if (!isSlice(slice)) {
            return deny(NO_MAN_OR_SLICE);
        }
        if (isIn(now.known, slice) == is) {
            return deny(CANNOT_BE);
        }
        now.known ^= bit(slice);
        return allow();
    }

    /** ODDS from now on. */
    public boolean rule(int odds) {
        if (odds < 0 || odds > SIXTEENTHS) {
            return deny(BAD_NUMBER);
        }
        now.odds = odds;
        return allow();
    }

    // ---- shares

    /** How many SLICES the ROW of the FEWEST has. */
    public int fewest(int p, int q) {
        if (!isShare(p, q)) {
            return refuse(BAD_NUMBER);
        }
        return answerSize(rows.findFewest(now.known, crumbs(p, q)));
    }

    /** The k-th SLICE of the ROW of the FEWEST. */
    public int fewestAt(int p, int q, int k) {
        if (!isShare(p, q)) {
            return refuse(BAD_NUMBER);
        }
        return answerSlice(rows.findFewest(now.known, crumbs(p, q)), k);
    }

    /** How many ROWS of just k there are. */
    public int ways(int p, int q, int k) {
        if (!isShare(p, q) || !isRowSize(k)) {
            return refuse(BAD_NUMBER);
        }
        rows.countAll(now.known, crumbs(p, q), k);
        return answer(rows.count);
    }

    /** The FRACTION is ODDS THAT a SLICE is in a ROW of k. */
    public boolean oddsThat(int p, int q, int k, int slice) {
        if (!isSlice(slice)) {
            return deny(NO_MAN_OR_SLICE);
        }
        if (!isShare(p, q) || !isRowSize(k)) {
            return deny(BAD_NUMBER);
        }
        rows.countAll(now.known, crumbs(p, q), k);
        if (rows.count == 0) {
            return deny(THERE_IS_NONE);
        }
        return tell(rows.with[slice], rows.count);
    }

    /** The KNOWN SLICE by which the ROWS of k are parted the best. */
    public int ask(int p, int q, int k) {
        if (!isShare(p, q) || !isRowSize(k)) {
            return refuse(BAD_NUMBER);
        }
        rows.countAll(now.known, crumbs(p, q), k);
        if (rows.count < 2) {
            return refuse(THERE_IS_NONE);
        }
        return answer(rows.bestQuestion(now.known));
    }

    /** The k-th SLICE of the KINDEST ROW. */
    public int kindestAt(int p, int q, int k) {
        if (!isShare(p, q)) {
            return refuse(BAD_NUMBER);
        }
        return answerSlice(rows.findKindest(now.known, crumbs(p, q)), k);
    }

    /** The k-th number of the GREEDY row. */
    public int greedyAt(int p, int q, int k) {
        if (!isShare(p, q) || p >= q) {
            return refuse(BAD_NUMBER);
        }
        long number = k < 0 ? 0L : greedyNumber(p, q, k);
        if (number == 0L) {
            return refuse(THERE_IS_NONE);
        }
        if (number > GREEDY_LIMIT) {
            return refuse(CANNOT_BE);
        }
        return answer((int) number);
    }

    /** In how many places a row that is told SLIPS. */
    public int slips(int tray, int n, int p, int q) {
        int status = slipStatus(tray, n, p, q);
        if (status != FINE) {
            return refuse(status);
        }
        told.findAll(trays[tray], n, now.known, crumbs(p, q));
        return answer(told.found);
    }

    /** Of the k-th place in which a row that is told SLIPS: the place (what 0), FIX (1). */
    public int slipAt(int tray, int n, int p, int q, int k, int what) {
        int status = slipStatus(tray, n, p, q);
        if (status != FINE) {
            return refuse(status);
        }
        if (what != 0 && what != 1) {
            return refuse(BAD_NUMBER);
        }
        told.findAll(trays[tray], n, now.known, crumbs(p, q));
        if (k < 0 || k >= told.found) {
            return refuse(THERE_IS_NONE);
        }
        return answer(what == 0 ? told.places[k] : told.fixes[k]);
    }

    // ---- the store

    /** The fewest CUTS and SPLITS till the STORE holds a SLICE. */
    public int reach(int slice) {
        if (!isSlice(slice)) {
            return refuse(NO_MAN_OR_SLICE);
        }
        if (!chain.find(now.stockSet(), slice)) {
            return refuse(THERE_IS_NONE);
        }
        return answer(chain.length - 1);
    }

    /** REACH: the k-th of the SLICES, from the one that the STORE holds on. */
    public int reachAt(int slice, int k) {
        if (!isSlice(slice)) {
            return refuse(NO_MAN_OR_SLICE);
        }
        if (!chain.find(now.stockSet(), slice) || k < 0 || k >= chain.length) {
            return refuse(THERE_IS_NONE);
        }
        return answer(chain.links[k]);
    }

    /** The fewest SLICES of the STORE that make a MAN EVEN. */
    public int fill(int man) {
        if (!now.isMan(man)) {
            return refuse(NO_MAN_OR_SLICE);
        }
        return answerSize(rows.findFewest(now.giftsFor(man), now.lacking(man)));
    }

    /** FILL: the k-th SLICE. */
    public int fillAt(int man, int k) {
        if (!now.isMan(man)) {
            return refuse(NO_MAN_OR_SLICE);
        }
        return answerSlice(rows.findFewest(now.giftsFor(man), now.lacking(man)), k);
    }

    // ---- plates, odds

    /** 1 if who begins the game of the PLATE wins, else 0. */
    public int plate(int set) {
        if (!isPlateSet(set)) {
            return refuse(BAD_NUMBER);
        }
        sums.lay(set);
        return answer(sums.firstWinning() == NONE ? 0 : 1);
    }

    /** The first SLICE by which who begins wins. */
    public int plateMove(int set) {
        if (!isPlateSet(set)) {
            return refuse(BAD_NUMBER);
        }
        sums.lay(set);
        int place = sums.firstWinning();
        if (place == NONE) {
            return refuse(THERE_IS_NONE);
        }
        return answer(sums.slices[place]);
    }

    /** The FRACTION is the odds that k SLICES of a set are together no more than a SHARE. */
    public boolean luck(int set, int k, int p, int q) {
        if (!isPlateSet(set) || k < 0 || k > SET_LIMIT || !isShare(p, q)) {
            return deny(BAD_NUMBER);
        }
        if (Integer.bitCount(set) < k) {
            return deny(THERE_IS_NONE);
        }
        sums.lay(set);
        return tell(sums.countWithin(k, crumbs(p, q)), choices(sums.size, k));
    }

    /** The FRACTION is the odds that k or more of n loaves burn. */
    public boolean burnt(int n, int k) {
        if (n < 0 || n > BURN_LIMIT || k < 0 || k > BURN_LIMIT) {
            return deny(BAD_NUMBER);
        }
        long burning = 0;
        for (int j = k; j <= n; j++) {
            burning += choices(n, j) * power(now.odds, j) * power(SIXTEENTHS - now.odds, n - j);
        }
        return tell(burning, power(SIXTEENTHS, n));
    }

    // ---- DAYS

    /** The DAYS are LIVED by a seed: how many STEPS were come to. */
    public int live(int seed) {
        if (seed < 0 || seed > SEED_LIMIT) {
            return refuse(BAD_NUMBER);
        }
        if (!plan.there) {
            return refuse(THERE_IS_NONE);
        }
        latest.run(now, plan, seed);
        return answer(latest.steps);
    }

    /** A number that tells of the latest live(). */
    public int lived(int what) {
        if (what < 0 || what > 4) {
            return refuse(BAD_NUMBER);
        }
        if (!latest.there) {
            return refuse(THERE_IS_NONE);
        }
        switch (what) {
            case 0: return answer(latest.missed);
            case 1: return answer(latest.cuts);
            case 2: return answer(latest.given);
            case 3: return answer(latest.baked);
            default: return answer(latest.left);
        }
    }

    /** The FRACTION is the mean of all that all MEN HAVE behind the DAYS, by so many seeds. */
    public boolean mean(int seed, int many) {
        if (seed < 0 || seed > SEED_LIMIT || many < 1 || many > SEEDS_LIMIT
                || seed + many - 1 > SEED_LIMIT) {
            return deny(BAD_NUMBER);
        }
        if (!plan.there) {
            return deny(THERE_IS_NONE);
        }
        long all = 0;
        for (int i = 0; i < many; i++) {
            spare.copyFrom(now);
            trial.run(spare, plan, seed + i);
            all += spare.allHoldings();
        }
        return tell(all, LOAF * many);
    }

    // ---- MARKS

    /** A MARK more: how many there are. */
    public int mark() {
        if (marked >= MARK_LIMIT) {
            return refuse(TOO_MANY);
        }
        keptBakeries[marked].copyFrom(now);
        keptPlans[marked].copyFrom(plan);
        marked++;
        return answer(marked);
    }

    /** All is taken back to the latest MARK: how many there are left. */
    public int back() {
        if (marked < 1) {
            return refuse(THERE_IS_NONE);
        }
        marked--;
        now.copyFrom(keptBakeries[marked]);
        plan.copyFrom(keptPlans[marked]);
        return answer(marked);
    }

    // ---- what the calls share

    private int refuse(int status) {
        outcome = status;
        return NONE;
    }

    private boolean deny(int status) {
        outcome = status;
        return false;
    }

    private int answer(int number) {
        outcome = FINE;
        return number;
    }

    private boolean allow() {
        outcome = FINE;
        return true;
    }

    /** How many SLICES the ROW has that was looked for. */
    private int answerSize(boolean found) {
        return found ? answer(rows.bestSize) : refuse(THERE_IS_NONE);
    }

    /** The k-th SLICE of the ROW that was looked for. */
    private int answerSlice(boolean found, int k) {
        return found && rows.hasBest(k) ? answer(rows.best[k]) : refuse(THERE_IS_NONE);
    }

    private boolean tell(long top, long bottom) {
        long divisor = commonDivisor(Math.abs(top), bottom);
        if (divisor > 0) {
            toldTop = top / divisor;
            toldBottom = bottom / divisor;
        }
        return allow();
    }

    private int trayStatus(int tray) {
        if (!isTray(tray)) {
            return NO_TRAY;
        }
        return trays[tray].isMissing() ? MISSING : FINE;
    }

    private int placeStatus(int tray, int place) {
        int status = trayStatus(tray);
        if (status != FINE) {
            return status;
        }
        return trays[tray].hasPlaces(place, 1) ? FINE : NO_PLACE;
    }

    /** A number below 0 is not too many places: it is for the caller to refuse. */
    private int placesStatus(int tray, int n) {
        int status = trayStatus(tray);
        if (status != FINE) {
            return status;
        }
        return n > trays[tray].length ? NO_PLACE : FINE;
    }

    private int slipStatus(int tray, int n, int p, int q) {
        int status = placesStatus(tray, n);
        if (status != FINE) {
            return status;
        }
        if (n < 1 || n > TOLD_LIMIT || !isShare(p, q)) {
            return BAD_NUMBER;
        }
        for (int i = 0; i < n; i++) {
            long number = trays[tray].cells[i];
            if (number < 1 || number > SLICES) {
                return BAD_NUMBER;
            }
        }
        return FINE;
    }

    private static boolean isTray(int tray) {
        return tray >= 0 && tray < TRAYS;
    }

    private static boolean isSlice(int slice) {
        return slice >= 1 && slice <= SLICES;
    }

    private static boolean isShare(int p, int q) {
        return p >= 1 && p <= 99 && q >= 1 && q <= SLICES;
    }

    private static boolean isRowSize(int k) {
        return k >= 1 && k <= ROW_LIMIT;
    }

    private static boolean isPlateSet(int set) {
        return set >= 0 && set <= ALL_SLICES && Integer.bitCount(set) <= SET_LIMIT;
    }

    private static int bit(int slice) {
        return 1 << (slice - 1);
    }

    private static boolean isIn(int set, int slice) {
        return (set & 1 << (slice - 1)) != 0;
    }

    /** p by q loaves in crumbs. */
    private static long crumbs(int p, int q) {
        return q < 1 ? 0L : p * (LOAF / q);
    }

    private static long commonDivisor(long a, long b) {
        long greater = a;
        long less = b;
        // A long's divisors are found in fewer than a hundred steps.
        for (int i = 0; i < 1000 && less != 0; i++) {
            long rest = greater % less;
            greater = less;
            less = rest;
        }
        return greater;
    }

    private static long power(int base, int exponent) {
        long product = 1;
        for (int i = 0; i < exponent; i++) {
            product *= base;
        }
        return product;
    }

    /** In how many ways k things are taken of n. */
    private static long choices(int n, int k) {
        long ways = 1;
        for (int i = 1; i <= k; i++) {
            ways = ways * (n - k + i) / i;
        }
        return ways;
    }

    /**
     * The k-th number of the GREEDY row of a SHARE below 1; 0 if it has none. What is left is kept
     * without a common divisor: so the row ends where its top is 1, and for no SHARE does a number
     * ahead of that outgrow a long.
     */
    private static long greedyNumber(int p, int q, int k) {
        long top = p;
        long bottom = q;
        // The top falls from step to step, so there are fewer steps than q has units.
        for (int i = 0; i < SLICES && top > 0; i++) {
            long number = (bottom + top - 1) / top;
            if (i == k) {
                return number;
            }
            long leftTop = top * number - bottom;
            if (leftTop == 0) {
                return 0L;
            }
            long leftBottom = bottom * number;
            long divisor = commonDivisor(leftTop, leftBottom);
            if (divisor < 1) {
                return 0L;
            }
            top = leftTop / divisor;
            bottom = leftBottom / divisor;
        }
        return 0L;
    }

    // ---- what the scribe keeps

    /** A row of numbers with sign of 8, 16, 32 or 64 bits, or MISSING. */
    private static final class Tray {
        int sort = 0;
        int length = NONE;
        final long[] cells = new long[TRAY_LIMIT];

        boolean isMissing() {
            return length < 0;
        }

        void lay(int newSort, int many) {
            sort = newSort;
            length = many;
            Arrays.fill(cells, 0L);
        }

        boolean hasPlaces(int from, int count) {
            return from >= 0 && count >= 0 && (long) from + count <= length;
        }

        void put(int place, long v) {
            if (hasPlaces(place, 1)) {
                cells[place] = sort == 0 ? (byte) v : sort == 1 ? (short) v : sort == 2 ? (int) v : v;
            }
        }
    }

    /** The BAKERY with all that became of it. */
    private static final class Bakery {
        final int[] stock = new int[SLICES + 1];
        int odds = 4;
        int known = ALL_SLICES;
        int cuts = 0;
        int men = 0;
        final long[] names = new long[MEN_LIMIT];
        final int[] dueTop = new int[MEN_LIMIT];
        final int[] dueBottom = new int[MEN_LIMIT];
        final int[] having = new int[MEN_LIMIT];

        void forget() {
            Arrays.fill(stock, 0);
            odds = 4;
            known = ALL_SLICES;
            cuts = 0;
            men = 0;
        }

        void copyFrom(Bakery other) {
            System.arraycopy(other.stock, 0, stock, 0, stock.length);
            odds = other.odds;
            known = other.known;
            cuts = other.cuts;
            men = other.men;
            System.arraycopy(other.names, 0, names, 0, MEN_LIMIT);
            System.arraycopy(other.dueTop, 0, dueTop, 0, MEN_LIMIT);
            System.arraycopy(other.dueBottom, 0, dueBottom, 0, MEN_LIMIT);
            System.arraycopy(other.having, 0, having, 0, MEN_LIMIT);
        }

        boolean isMan(int man) {
            return man >= 0 && man < men;
        }

        /** The number of the new MAN; one who came without a NAME has 0 in its place. */
        int addMan(long name, int p, int q) {
            if (men >= MEN_LIMIT) {
                return NONE;
            }
            names[men] = name;
            dueTop[men] = p;
            dueBottom[men] = q;
            having[men] = 0;
            men++;
            return men - 1;
        }

        int manNamed(long name) {
            for (int man = 0; man < men; man++) {
                if (names[man] == name) {
                    return man;
                }
            }
            return NONE;
        }

        int pieces() {
            int all = 0;
            for (int slice = 1; slice <= SLICES; slice++) {
                all += stock[slice];
            }
            return all;
        }

        int stockSet() {
            int set = 0;
            for (int slice = 1; slice <= SLICES; slice++) {
                if (stock[slice] > 0) {
                    set |= bit(slice);
                }
            }
            return set;
        }

        long stockCrumbs() {
            long all = 0;
            for (int slice = 1; slice <= SLICES; slice++) {
                all += crumbs(stock[slice], slice);
            }
            return all;
        }

        long holding(int man) {
            long all = 0;
            for (int slice = 1; slice <= SLICES; slice++) {
                if (isIn(having[man], slice)) {
                    all += crumbs(1, slice);
                }
            }
            return all;
        }

        long allHoldings() {
            long all = 0;
            for (int man = 0; man < men; man++) {
                all += holding(man);
            }
            return all;
        }

        long lacking(int man) {
            return crumbs(dueTop[man], dueBottom[man]) - holding(man);
        }

        int evenMen() {
            int set = 0;
            for (int man = 0; man < men; man++) {
                if (lacking(man) == 0) {
                    set |= 1 << man;
                }
            }
            return set;
        }

        /** The SLICES that the STORE holds and a MAN has not. */
        int giftsFor(int man) {
            return stockSet() & ~having[man];
        }

        // What is done tells its STATUS; with another one than FINE nothing is done.

        int addLoaves(int n) {
            if (n < 1 || n > STOCK_LIMIT) {
                return BAD_NUMBER;
            }
            if (stock[1] + n > STOCK_LIMIT) {
                return TOO_MANY;
            }
            stock[1] += n;
            return FINE;
        }

        int cutUp(int slice, int a, int b) {
            if (!isSlice(slice) || !isSlice(a) || !isSlice(b)) {
                return NO_MAN_OR_SLICE;
            }
            if (stockAfterCut(a, slice, a, b) > STOCK_LIMIT || stockAfterCut(b, slice, a, b) > STOCK_LIMIT) {
                return TOO_MANY;
            }
            if (stock[slice] < 1 || a * b != slice * (a + b)) {
                return CANNOT_BE;
            }
            stock[slice]--;
            stock[a]++;
            stock[b]++;
            cuts++;
            return FINE;
        }

        private int stockAfterCut(int of, int slice, int a, int b) {
            return stock[of] - (of == slice ? 1 : 0) + (of == a ? 1 : 0) + (of == b ? 1 : 0);
        }

        int splitUp(int slice, int by) {
            if (!isSlice(slice)) {
                return NO_MAN_OR_SLICE;
            }
            if (by < 2 || by > SLICES) {
                return BAD_NUMBER;
            }
            int part = slice * by;
            if (isSlice(part) && stock[part] + by > STOCK_LIMIT) {
                return TOO_MANY;
            }
            if (stock[slice] < 1 || !isSlice(part)) {
                return CANNOT_BE;
            }
            stock[slice]--;
            stock[part] += by;
            cuts++;
            return FINE;
        }

        int handOver(int man, int slice) {
            if (!isMan(man) || !isSlice(slice)) {
                return NO_MAN_OR_SLICE;
            }
            if (stock[slice] < 1 || isIn(having[man], slice)) {
                return CANNOT_BE;
            }
            stock[slice]--;
            having[man] |= bit(slice);
            return FINE;
        }

        int handBack(int man, int slice) {
            if (!isMan(man) || !isSlice(slice)) {
                return NO_MAN_OR_SLICE;
            }
            if (stock[slice] >= STOCK_LIMIT) {
                return TOO_MANY;
            }
            if (!isIn(having[man], slice)) {
                return CANNOT_BE;
            }
            stock[slice]++;
            having[man] &= ~bit(slice);
            return FINE;
        }
    }

    /**
     * The DAYS, a code a STEP and one for each end. A code's kind is its WORD's number (of a when:
     * its TEST's). Who begins a block and its end know each other by mate.
     */
    private static final class Days {
        static final int CODE_LIMIT = 2 * STEP_LIMIT;
        boolean there = false;
        int steps = 0;
        int length = 0;
        final int[] kind = new int[CODE_LIMIT];
        final int[] first = new int[CODE_LIMIT];
        final int[] second = new int[CODE_LIMIT];
        final int[] third = new int[CODE_LIMIT];
        final int[] mate = new int[CODE_LIMIT];

        void forget() {
            there = false;
            steps = 0;
            length = 0;
        }

        void copyFrom(Days other) {
            there = other.there;
            steps = other.steps;
            length = other.length;
            System.arraycopy(other.kind, 0, kind, 0, CODE_LIMIT);
            System.arraycopy(other.first, 0, first, 0, CODE_LIMIT);
            System.arraycopy(other.second, 0, second, 0, CODE_LIMIT);
            System.arraycopy(other.third, 0, third, 0, CODE_LIMIT);
            System.arraycopy(other.mate, 0, mate, 0, CODE_LIMIT);
        }

        boolean add(int newKind, int x, int y, int z) {
            if (length >= CODE_LIMIT) {
                return false;
            }
            kind[length] = newKind;
            first[length] = x;
            second[length] = y;
            third[length] = z;
            mate[length] = length;
            length++;
            return true;
        }

        void pair(int begin, int end) {
            if (begin >= 0 && begin < length && end >= 0 && end < length) {
                mate[begin] = end;
                mate[end] = begin;
            }
        }
    }

    // ---- texts

    /** The tape, and the TOKENS of the text that it held, one ahead; the first FAULT is kept. */
    private static final class Reader {
        static final int NOTHING = 0;
        static final int WORD = 1;
        static final int NUMBER = 2;
        static final int SIGN = 3;
        static final int NO_TOKEN = 4;
        static final int NAME_LETTERS = 8;
        static final int NUMBER_DIGITS = 4;

        private final byte[] tape = new byte[TAPE_LIMIT];
        int filled = 0;
        private final long[] reserved = new long[RESERVED_COUNT + 1];
        boolean opened = false;
        private int end = 0;
        private int at = 0;
        private int start = 0;
        private int takenStart = 0;
        int kind = NOTHING;
        int word = NONE; // a WORD's number, FREE_WORD if it has none; NONE for what is no WORD
        private long letters = 0; // a WORD of at most 8 letters, 5 bits each; 0 for a longer one
        private int value = 0; // a NUMBER, or a SIGN's byte
        int fault = 0;
        int faultPlace = NONE;

        Reader() {
            int number = 1;
            for (int i = 0; i < RESERVED.length(); i++) {
                char c = RESERVED.charAt(i);
                if (c == ' ') {
                    number++;
                } else if (number <= RESERVED_COUNT) {
                    reserved[number] = reserved[number] * 32 + (c - 'a' + 1);
                }
            }
        }

        boolean hasRoom(int bytes) {
            return filled + bytes <= TAPE_LIMIT;
        }

        void append(int four) {
            for (int shift = 24; shift >= 0 && hasRoom(1); shift -= 8) {
                tape[filled] = (byte) (four >>> shift);
                filled++;
            }
        }

        /** The first n bytes are the text; the tape takes new ones from its beginning on. */
        void open(int n) {
            end = Math.max(0, Math.min(n, filled));
            filled = 0;
            opened = true;
            at = 0;
            fault = 0;
            faultPlace = NONE;
            advance();
        }

        private void advance() {
            takenStart = start;
            for (int i = at; i < end && (tape[i] == ' ' || tape[i] == '\n'); i++) {
                at = i + 1;
            }
            start = at;
            word = NONE;
            if (at >= end) {
                kind = NOTHING;
                return;
            }
            int c = tape[at];
            if (c >= 'a' && c <= 'z') {
                readWord();
            } else if (c >= '0' && c <= '9') {
                readNumber();
            } else {
                kind = c == ';' || c == '<' || c == '>' || c == '=' ? SIGN : NO_TOKEN;
                value = c;
                at++;
            }
        }

        private void readWord() {
            kind = WORD;
            letters = 0;
            for (int i = start; i < end && tape[i] >= 'a' && tape[i] <= 'z'; i++) {
                at = i + 1;
                letters = at - start > NAME_LETTERS ? 0L : letters * 32 + (tape[i] - 'a' + 1);
            }
            word = FREE_WORD;
            for (int number = 1; number <= RESERVED_COUNT; number++) {
                if (reserved[number] == letters) {
                    word = number;
                }
            }
        }

        private void readNumber() {
            value = 0;
            for (int i = start; i < end && tape[i] >= '0' && tape[i] <= '9'; i++) {
                at = i + 1;
                value = at - start > NUMBER_DIGITS ? 0 : value * 10 + (tape[i] - '0');
            }
            kind = at - start > NUMBER_DIGITS ? NO_TOKEN : NUMBER;
        }

        private boolean wrong(int newFault, int place) {
            fault = newFault;
            faultPlace = place;
            return false;
        }

        /** The TOKEN that is next can't stand here, or is none. */
        boolean misplaced() {
            return wrong(kind == NO_TOKEN ? 1 : 2, start);
        }

        /** A FAULT of the TOKEN that was taken latest. */
        boolean wrongTaken(int newFault) {
            return wrong(newFault, takenStart);
        }

        boolean takeAny() {
            advance();
            return true;
        }

        boolean takeWord(int wanted) {
            return word == wanted ? takeAny() : misplaced();
        }

        boolean takeSemicolon() {
            return kind == SIGN && value == ';' ? takeAny() : misplaced();
        }

        /** The byte of < > or =, NONE if another TOKEN is there. */
        int takeCompares() {
            if (kind != SIGN || value == ';') {
                misplaced();
                return NONE;
            }
            int sign = value;
            advance();
            return sign;
        }

        /** The NUMBER, NONE if it is none or not from least to most. */
        int takeNumber(int least, int most) {
            if (kind != NUMBER) {
                misplaced();
                return NONE;
            }
            int number = value;
            advance();
            if (number < least || number > most) {
                wrongTaken(4);
                return NONE;
            }
            return number;
        }

        /** The letters of a NAME, 0 if there is none. */
        long takeName() {
            if (word != FREE_WORD || letters == 0) {
                misplaced();
                return 0L;
            }
            long name = letters;
            advance();
            return name;
        }
    }

    /** Reads a BAKERY. */
    private static final class BakeryReader {
        private boolean oddsTold = false;
        private boolean knownTold = false;
        private int stockTold = 0;

        boolean readInto(Bakery out, Reader in) {
            out.forget();
            oddsTold = false;
            knownTold = false;
            stockTold = 0;
            boolean fine = true;
            for (int i = 0; i < TAPE_LIMIT && fine && in.kind != Reader.NOTHING; i++) {
                switch (in.word) {
                    case ODDS:
                        fine = readOdds(out, in);
                        break;
                    case STORE:
                        fine = readStore(out, in);
                        break;
                    case MAN:
                        fine = readMan(out, in);
                        break;
                    case KNOWN:
                        fine = readKnown(out, in);
                        break;
                    default:
                        fine = in.misplaced();
                }
            }
            return fine;
        }

        private boolean readOdds(Bakery out, Reader in) {
            in.takeAny();
            if (oddsTold) {
                return in.wrongTaken(5);
            }
            oddsTold = true;
            out.odds = in.takeNumber(0, SIXTEENTHS);
            return out.odds != NONE && in.takeSemicolon();
        }

        private boolean readStore(Bakery out, Reader in) {
            in.takeAny();
            int slice = in.takeNumber(1, SLICES);
            if (!isSlice(slice)) {
                return false;
            }
            if (isIn(stockTold, slice)) {
                return in.wrongTaken(5);
            }
            stockTold |= bit(slice);
            int count = 1;
            if (in.word == TIMES) {
                in.takeAny();
                count = in.takeNumber(0, STOCK_LIMIT);
            }
            out.stock[slice] = count;
            return count != NONE && in.takeSemicolon();
        }

        private static boolean readMan(Bakery out, Reader in) {
            in.takeAny();
            if (out.men >= MEN_LIMIT) {
                return in.wrongTaken(6);
            }
            long name = in.takeName();
            if (name == 0) {
                return false;
            }
            if (out.manNamed(name) != NONE) {
                return in.wrongTaken(3);
            }
            int p = in.takeWord(DUE) ? in.takeNumber(1, 99) : NONE;
            if (p == NONE || !in.takeWord(BY)) {
                return false;
            }
            int q = in.takeNumber(1, SLICES);
            if (q == NONE) {
                return false;
            }
            int man = out.addMan(name, p, q);
            if (in.word == HAS && out.isMan(man)) {
                in.takeAny();
                out.having[man] = takeSlices(in);
            }
            return in.fault == 0 && in.takeSemicolon();
        }

        private boolean readKnown(Bakery out, Reader in) {
            in.takeAny();
            if (knownTold) {
                return in.wrongTaken(5);
            }
            knownTold = true;
            out.known = takeSlices(in);
            return in.fault == 0 && in.takeSemicolon();
        }

        /** The set of the SLICES that come, each once; a FAULT is kept by the reader. */
        private static int takeSlices(Reader in) {
            int set = 0;
            // A SLICE more than there are is one told twice.
            for (int i = 0; i <= SLICES && in.fault == 0 && in.kind == Reader.NUMBER; i++) {
                int slice = in.takeNumber(1, SLICES);
                if (isSlice(slice) && isIn(set, slice)) {
                    in.wrongTaken(5);
                } else if (isSlice(slice)) {
                    set |= bit(slice);
                }
            }
            return set;
        }
    }

    /** Reads DAYS for the MEN of a BAKERY. */
    private static final class DaysReader {
        static final int DEPTH_LIMIT = 3;
        private final int[] open = new int[DEPTH_LIMIT];
        private int depth = 0;

        boolean readInto(Days out, Bakery bakery, Reader in) {
            out.forget();
            depth = 0;
            boolean fine = true;
            for (int i = 0; i < TAPE_LIMIT && fine && in.kind != Reader.NOTHING; i++) {
                fine = in.word == END ? readEnd(out, in) : readStep(out, bakery, in);
            }
            if (fine && depth > 0) {
                fine = in.misplaced();
            }
            out.there = fine;
            return fine;
        }

        private boolean readEnd(Days out, Reader in) {
            if (depth < 1) {
                return in.misplaced();
            }
            in.takeAny();
            depth--;
            if (!out.add(END, 0, 0, 0)) {
                return false;
            }
            out.pair(open[depth], out.length - 1);
            return in.takeSemicolon();
        }

        private boolean readStep(Days out, Bakery bakery, Reader in) {
            int word = in.word;
            boolean isBlock = word == WHEN || word == LOOP;
            boolean isStep = isBlock || word == STOP || (word >= CUT && word <= ANY);
            if (!isStep) {
                return in.misplaced();
            }
            in.takeAny();
            if (out.steps >= STEP_LIMIT) {
                return in.wrongTaken(6);
            }
            if (isBlock && depth >= DEPTH_LIMIT) {
                return in.wrongTaken(7);
            }
            out.steps++;
            if (isBlock) {
                open[depth] = out.length;
                depth++;
            }
            boolean fine = word == WHEN ? readTest(out, bakery, in) : readAct(out, bakery, word, in);
            return fine && in.takeSemicolon();
        }

        private static boolean readAct(Days out, Bakery bakery, int word, Reader in) {
            switch (word) {
                case CUT:
                    return readCut(out, in);
                case SPLIT: {
                    int slice = in.takeNumber(1, SLICES);
                    int by = slice == NONE ? NONE : in.takeNumber(2, SLICES);
                    return by != NONE && out.add(word, slice, by, 0);
                }
                case GIVE:
                case TAKE: {
                    int man = takeMan(bakery, in);
                    int slice = man == NONE ? NONE : in.takeNumber(1, SLICES);
                    return slice != NONE && out.add(word, man, slice, 0);
                }
                case BAKE: {
                    int count = in.takeNumber(1, 9);
                    return count != NONE && out.add(word, count, 0, 0);
                }
                case LOOP: {
                    int times = in.takeNumber(1, 99);
                    return times != NONE && out.add(word, times, 0, 0);
                }
                default:
                    return out.add(word, 0, 0, 0);
            }
        }

        private static boolean readCut(Days out, Reader in) {
            int slice = in.takeNumber(1, SLICES);
            int a = slice == NONE ? NONE : in.takeNumber(1, SLICES);
            int b = a == NONE ? NONE : in.takeNumber(1, SLICES);
            return b != NONE && out.add(CUT, slice, a, b);
        }

        private static boolean readTest(Days out, Bakery bakery, Reader in) {
            int test = in.word;
            if (test != EVEN && test != HOLDS && test != LACKS) {
                return in.misplaced();
            }
            in.takeAny();
            int of = test == HOLDS ? in.takeNumber(1, SLICES) : takeMan(bakery, in);
            if (of == NONE) {
                return false;
            }
            if (test == EVEN) {
                return out.add(EVEN, of, 0, 0);
            }
            int sign = in.takeCompares();
            int against = sign == NONE ? NONE : in.takeNumber(0, 99);
            return against != NONE && out.add(test, of, sign, against);
        }

        private static int takeMan(Bakery bakery, Reader in) {
            long name = in.takeName();
            if (name == 0) {
                return NONE;
            }
            int man = bakery.manNamed(name);
            if (man == NONE) {
                in.wrongTaken(3);
            }
            return man;
        }
    }

    // ---- shares, the store

    /** Looks for ROWS: unlike SLICES of a set that are together just so many crumbs. */
    private static final class Rows {
        private static final int FIRST = 0;
        private static final int ALL = 1;
        private static final int KINDEST = 2;

        private int goal = FIRST;
        private int allowed = 0;
        private int size = 0;
        private final int[] row = new int[ROW_LIMIT];
        final int[] best = new int[ROW_LIMIT];
        int bestSize = 0;
        int count = 0;
        final int[] with = new int[SLICES + 1];

        private void begin(int newGoal, int set) {
            goal = newGoal;
            allowed = set;
            bestSize = 0;
            count = 0;
            Arrays.fill(with, 0);
        }

        /** The first ROW of the fewest SLICES, none of them for no crumbs; false without one. */
        boolean findFewest(int set, long crumbs) {
            begin(FIRST, set);
            boolean found = crumbs == 0;
            for (int k = 1; k <= ROW_LIMIT && !found && crumbs > 0; k++) {
                found = seekRowsOf(k, crumbs);
            }
            return found;
        }

        boolean findKindest(int set, long crumbs) {
            begin(KINDEST, set);
            for (int k = 1; k <= ROW_LIMIT; k++) {
                seekRowsOf(k, crumbs);
            }
            return bestSize > 0;
        }

        void countAll(int set, long crumbs, int k) {
            begin(ALL, set);
            seekRowsOf(k, crumbs);
        }

        private boolean seekRowsOf(int k, long crumbs) {
            size = k;
            return seek(this, 0, 1, crumbs);
        }

        boolean hasBest(int k) {
            return k >= 0 && k < bestSize;
        }

        int bestQuestion(int known) {
            int best = NONE;
            int least = count + 1;
            for (int slice = 1; slice <= SLICES; slice++) {
                int greater = Math.max(with[slice], count - with[slice]);
                if (isIn(known, slice) && greater < least) {
                    best = slice;
                    least = greater;
                }
            }
            return best;
        }

        /** Whether the search may end: SLICES no less than from are put behind the first ones. */
        private static boolean seek(Rows rows, int placed, int from, long rest) {
            int open = rows.size - placed;
            if (open < 1 || placed >= ROW_LIMIT) {
                return false;
            }
            if (open == 1) {
                return rows.putLast(placed, from, rest);
            }
            for (int slice = from; slice <= SLICES; slice++) {
                long part = crumbs(1, slice);
                if (part * open <= rest) {
                    return false; // this SLICE and all behind it are together too little
                }
                if (part < rest && isIn(rows.allowed, slice)) {
                    rows.row[placed] = slice;
                    if (seek(rows, placed + 1, slice + 1, rest - part)) {
                        return true;
                    }
                }
            }
            return false;
        }

        private boolean putLast(int placed, int from, long rest) {
            if (rest < 1 || LOAF % rest != 0) {
                return false;
            }
            long slice = LOAF / rest;
            if (slice < from || slice > SLICES || !isIn(allowed, (int) slice)) {
                return false;
            }
            row[placed] = (int) slice;
            return meet((int) slice);
        }

        private boolean meet(int last) {
            if (goal == ALL) {
                count++;
                for (int i = 0; i < size; i++) {
                    with[row[i]]++;
                }
                return false;
            }
            System.arraycopy(row, 0, best, 0, size);
            bestSize = size;
            // Behind a kind ROW only a last SLICE that is less is kinder.
            allowed = goal == KINDEST ? allowed & (bit(last) - 1) : allowed;
            return goal == FIRST;
        }
    }

    /** Where a row that is told SLIPS. */
    private static final class Slips {
        final int[] places = new int[TOLD_LIMIT];
        final int[] fixes = new int[TOLD_LIMIT];
        int found = 0;

        /** Of a TRAY whose first n numbers are SLICES. */
        void findAll(Tray tray, int n, int known, long crumbs) {
            found = 0;
            for (int place = 0; place < n && place < TOLD_LIMIT; place++) {
                int fix = fixAt(tray, n, place, known, crumbs);
                // Where a SLICE would be put for itself, they are a ROW already.
                if (fix != NONE && fix != tray.cells[place]) {
                    places[found] = place;
                    fixes[found] = fix;
                    found++;
                }
            }
        }

        private static int fixAt(Tray tray, int n, int place, int known, long crumbs) {
            int usable = known;
            long rest = crumbs;
            for (int i = 0; i < n && i < TRAY_LIMIT; i++) {
                if (i != place) {
                    int slice = (int) tray.cells[i];
                    if (!isIn(usable, slice)) {
                        return NONE;
                    }
                    usable &= ~bit(slice);
                    rest -= crumbs(1, slice);
                }
            }
            if (rest < 1 || LOAF % rest != 0 || LOAF / rest > SLICES) {
                return NONE;
            }
            int fix = (int) (LOAF / rest);
            return isIn(usable, fix) ? fix : NONE;
        }
    }

    /** The fewest CUTS and SPLITS till there is a SLICE. */
    private static final class Reach {
        private static final int NEVER = 1000;
        private final int[] steps = new int[SLICES + 1];
        final int[] links = new int[SLICES + 1];
        int length = 0;

        boolean find(int stockSet, int target) {
            countSteps(target);
            int start = NONE;
            int least = NEVER;
            for (int slice = 1; slice <= target; slice++) {
                if (isIn(stockSet, slice) && steps[slice] < least) {
                    start = slice;
                    least = steps[slice];
                }
            }
            if (start == NONE) {
                return false;
            }
            follow(start, target);
            return true;
        }

        /** All that comes of a SLICE is smaller, so its number is greater. */
        private void countSteps(int target) {
            steps[target] = 0;
            for (int slice = target - 1; slice >= 1; slice--) {
                steps[slice] = NEVER;
                for (int part = slice + 1; part <= target; part++) {
                    if (comesOf(part, slice)) {
                        steps[slice] = Math.min(steps[slice], steps[part] + 1);
                    }
                }
            }
        }

        private void follow(int start, int target) {
            int slice = start;
            links[0] = start;
            length = 1;
            for (int part = start + 1; part <= target; part++) {
                if (steps[part] == steps[slice] - 1 && comesOf(part, slice)) {
                    links[length] = part;
                    length++;
                    slice = part;
                }
            }
        }

        /** By a SPLIT, or by a CUT into this part and another SLICE. */
        private static boolean comesOf(int part, int slice) {
            if (slice < 1 || part <= slice) {
                return false;
            }
            int product = slice * part;
            int less = part - slice;
            return part % slice == 0 || (product % less == 0 && product / less <= SLICES);
        }
    }

    // ---- plates, odds

    /** What the SLICES of each part of a set are together; a part's bits are places in slices. */
    private static final class Sums {
        final int[] slices = new int[SET_LIMIT];
        int size = 0;
        private final long[] together = new long[1 << SET_LIMIT];
        private final byte[] wins = new byte[1 << SET_LIMIT];

        void lay(int set) {
            size = 0;
            for (int slice = 1; slice <= SLICES && size < SET_LIMIT; slice++) {
                if (isIn(set, slice)) {
                    addSlice(slice);
                }
            }
        }

        private void addSlice(int slice) {
            int parts = 1 << size;
            for (int part = 0; part < parts; part++) {
                together[parts + part] = together[part] + crumbs(1, slice);
            }
            slices[size] = slice;
            size++;
        }

        /** The place of the first SLICE by which who begins wins, NONE without one. */
        int firstWinning() {
            for (int plate = (1 << size) - 1; plate > 0; plate--) {
                if (together[plate] <= LOAF) {
                    wins[plate] = (byte) (winningPlace(plate) == NONE ? 0 : 1);
                }
            }
            return winningPlace(0);
        }

        private int winningPlace(int plate) {
            for (int place = 0; place < size; place++) {
                int next = plate | 1 << place;
                if (next != plate && together[next] <= LOAF && wins[next] == 0) {
                    return place;
                }
            }
            return NONE;
        }

        long countWithin(int k, long crumbs) {
            long count = 0;
            for (int part = 0; part < 1 << size; part++) {
                if (Integer.bitCount(part) == k && together[part] <= crumbs) {
                    count++;
                }
            }
            return count;
        }
    }

    // ---- DAYS

    /** DAYS as they are LIVED. */
    private static final class Life {
        // Between two STEPS come no more ends than an empty loop has turns, and three.
        private static final int TURN_LIMIT = 1_000_000;
        boolean there = false;
        int steps = 0;
        int missed = 0;
        int cuts = 0;
        int given = 0;
        int baked = 0;
        int left = 0;
        private int seed = 0;
        private final int[] rounds = new int[Days.CODE_LIMIT];

        void run(Bakery bakery, Days days, int firstSeed) {
            there = true;
            steps = 0;
            missed = 0;
            cuts = 0;
            given = 0;
            baked = 0;
            left = 0;
            seed = firstSeed;
            int at = 0;
            for (int turn = 0; turn < TURN_LIMIT && left == 0 && at >= 0 && at < days.length; turn++) {
                if (days.kind[at] == END) {
                    at = behindEnd(days, at);
                } else if (steps >= LIVED_LIMIT) {
                    left = 1;
                } else {
                    steps++;
                    at = behindStep(bakery, days, at);
                }
            }
        }

        private int behindEnd(Days days, int at) {
            int begin = days.mate[at];
            boolean isBegin = begin >= 0 && begin < at;
            if (isBegin && days.kind[begin] == LOOP && rounds[begin] > 1) {
                rounds[begin]--;
                return begin + 1;
            }
            return at + 1;
        }

        private int behindStep(Bakery bakery, Days days, int at) {
            switch (days.kind[at]) {
                case STOP:
                    return days.length;
                case LOOP:
                    rounds[at] = days.first[at];
                    return at + 1;
                case EVEN:
                case HOLDS:
                case LACKS:
                    return holdsTrue(bakery, days, at) ? at + 1 : days.mate[at] + 1;
                case ANY:
                    missed += doAny(bakery) ? 0 : 1;
                    return at + 1;
                default:
                    missed += act(bakery, days, at) ? 0 : 1;
                    return at + 1;
            }
        }

        private static boolean holdsTrue(Bakery bakery, Days days, int at) {
            int of = days.first[at];
            int against = days.third[at];
            switch (days.kind[at]) {
                case EVEN:
                    return bakery.isMan(of) && bakery.lacking(of) == 0;
                case HOLDS:
                    return isSlice(of) && compares(bakery.stock[of], days.second[at], against);
                default:
                    return bakery.isMan(of) && compares(bakery.lacking(of), days.second[at], against * LOAF);
            }
        }

        private static boolean compares(long a, int sign, long b) {
            return sign == '<' ? a < b : sign == '>' ? a > b : a == b;
        }

        /** Whether what is to be done was done, not MISSED. */
        private boolean act(Bakery bakery, Days days, int at) {
            int x = days.first[at];
            int y = days.second[at];
            switch (days.kind[at]) {
                case CUT:
                    return cutUp(bakery, x, y, days.third[at]);
                case SPLIT:
                    return splitUp(bakery, x, y);
                case GIVE:
                    return handOver(bakery, x, y);
                case TAKE:
                    return bakery.handBack(x, y) == FINE;
                default:
                    return addLoaves(bakery, x);
            }
        }

        private boolean doAny(Bakery bakery) {
            if (bakery.men < 1) {
                return false;
            }
            int man = draw(bakery.men);
            int slice = draw(SLICES) + 1;
            int lot = draw(SIXTEENTHS);
            return lot < bakery.odds ? splitUp(bakery, slice, 2) : handOver(bakery, man, slice);
        }

        private boolean cutUp(Bakery bakery, int slice, int a, int b) {
            boolean done = bakery.cutUp(slice, a, b) == FINE;
            cuts += done ? 1 : 0;
            return done;
        }

        private boolean splitUp(Bakery bakery, int slice, int by) {
            boolean done = bakery.splitUp(slice, by) == FINE;
            cuts += done ? 1 : 0;
            return done;
        }

        private boolean handOver(Bakery bakery, int man, int slice) {
            boolean done = bakery.handOver(man, slice) == FINE;
            given += done ? 1 : 0;
            return done;
        }

        private boolean addLoaves(Bakery bakery, int n) {
            boolean done = bakery.addLoaves(n) == FINE;
            baked += done ? n : 0;
            return done;
        }

        private int draw(int n) {
            seed = (seed * 2_971 + 10_993) % 65_536;
            return n < 1 ? 0 : seed / 8 % n;
        }
    }
}
