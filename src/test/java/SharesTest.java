import java.math.BigInteger;
import java.util.ArrayList;
import java.util.Arrays;
import java.util.List;
import java.util.Random;

/** Promises 29 to 37: ROWS, found once more here by trying all sets of SLICES; GREEDY, SLIPS. */
public final class SharesTest {
    private static final long LOAF = 2329089562800L;
    private static final int ALL = (1 << 30) - 1;

    /** All sets of 1 to 5 SLICES, the fewer ahead, then by their first SLICES; what each is together. */
    private static final int[] SETS = new int[174_436];
    private static final long[] SUMS = new long[174_436];

    private SharesTest() {
    }

    public static void main(String[] args) {
        fillSets();
        examples();
        wrongShares();
        noRows();
        wrongOthers();
        askOfSeveral();
        Random random = new Random(7);
        for (int i = 0; i < 60; i++) {
            int known = i == 0 ? ALL : ALL & (random.nextInt() | random.nextInt() | (i % 2 == 0 ? random.nextInt() : 0));
            againstAll(known, random);
        }
        greedyExamples();
        greedyOfAll();
        slipExamples();
        slipStatuses();
        slipsAgainstAll(random);
        Check.end("SharesTest");
    }

    private static void fillSets() {
        int filled = 0;
        for (int size = 1; size <= 5; size++) {
            filled = addSets(filled, size, 1, 0, 0L);
        }
        Check.due("sets in all", filled, SETS.length);
    }

    private static int addSets(int filled, int size, int from, int set, long sum) {
        if (size == 0) {
            SETS[filled] = set;
            SUMS[filled] = sum;
            return filled + 1;
        }
        int next = filled;
        for (int slice = from; slice <= 30; slice++) {
            next = addSets(next, size - 1, slice + 1, set | Check.set(slice), sum + LOAF / slice);
        }
        return next;
    }

    private static BreadScribes knowing(int known) {
        StringBuilder text = new StringBuilder("known");
        for (int slice = 1; slice <= 30; slice++) {
            text.append((known & Check.set(slice)) != 0 ? " " + slice : "");
        }
        return Check.with(text + ";");
    }

    private static void examples() {
        BreadScribes alone = knowing(Check.set(2, 3, 4, 5, 6, 8, 10, 12, 15, 20));
        Check.fraction(alone, "oddsThat(2, 5, 3, 15)", alone.oddsThat(2, 5, 3, 15), 1, 2);
        alone.learn(15, false);
        Check.fraction(alone, "oddsThat(2, 5, 3, 20) without 15", alone.oddsThat(2, 5, 3, 20), 1, 1);
        BreadScribes x = knowing(Check.set(2, 3, 4, 5, 6, 8, 10, 12, 15, 20));
        Check.fine(x, "fewest(3, 4)", x.fewest(3, 4), 2);
        Check.fine(x, "fewestAt(3, 4, 0)", x.fewestAt(3, 4, 0), 2);
        Check.fine(x, "fewestAt(3, 4, 1)", x.fewestAt(3, 4, 1), 4);
        Check.refused(x, "fewestAt(3, 4, 2)", x.fewestAt(3, 4, 2), 8);
        Check.refused(x, "fewestAt(3, 4, -1)", x.fewestAt(3, 4, -1), 8);
        Check.refused(x, "fewestAt(3, 4, 5)", x.fewestAt(3, 4, 5), 8);
        Check.refused(x, "fewestAt(3, 4, max)", x.fewestAt(3, 4, Integer.MAX_VALUE), 8);
        Check.fine(x, "ways(2, 5, 2)", x.ways(2, 5, 2), 1);
        Check.fine(x, "ways(2, 5, 3)", x.ways(2, 5, 3), 2);
        Check.fine(x, "ways(4, 10, 3)", x.ways(4, 10, 3), 2);
        Check.fraction(x, "oddsThat(2, 5, 3, 10)", x.oddsThat(2, 5, 3, 10), 1, 2);
        Check.fraction(x, "oddsThat(2, 5, 3, 4)", x.oddsThat(2, 5, 3, 4), 1, 1);
        Check.fraction(x, "oddsThat(2, 5, 3, 7)", x.oddsThat(2, 5, 3, 7), 0, 1);
        Check.fine(x, "ask(2, 5, 3)", x.ask(2, 5, 3), 10);
        Check.fine(x, "kindestAt(2, 5, 0)", x.kindestAt(2, 5, 0), 3);
        Check.fine(x, "kindestAt(2, 5, 1)", x.kindestAt(2, 5, 1), 15);
        Check.refused(x, "kindestAt(2, 5, 2)", x.kindestAt(2, 5, 2), 8);
        Check.refused(x, "kindestAt(2, 5, -1)", x.kindestAt(2, 5, -1), 8);
        BreadScribes y = new BreadScribes();
        Check.fine(y, "fewest(1, 1)", y.fewest(1, 1), 1);
        Check.fine(y, "fewestAt(1, 1, 0)", y.fewestAt(1, 1, 0), 1);
        Check.fine(y, "fewest(5, 6)", y.fewest(5, 6), 2);
        Check.fine(y, "ways(1, 1, 3)", y.ways(1, 1, 3), 1);
        y.learn(1, false);
        Check.fine(y, "fewest(1, 1) without 1", y.fewest(1, 1), 3);
        Check.fine(y, "fewestAt(1, 1, 2) without 1", y.fewestAt(1, 1, 2), 6);
        Check.fine(y, "kindestAt(1, 1, 2) without 1", y.kindestAt(1, 1, 2), 6);
    }

    private static void wrongShares() {
        BreadScribes x = new BreadScribes();
        int[][] shares = {{0, 1}, {-1, 1}, {100, 1}, {1, 0}, {1, -1}, {1, 31}, {Integer.MAX_VALUE, 1},
            {1, Integer.MAX_VALUE}, {1, Integer.MIN_VALUE}};
        x.tray(0, 0, 4);
        x.write(0, 0, 3);
        for (int[] share : shares) {
            int p = share[0];
            int q = share[1];
            String of = " of " + p + " by " + q;
            Check.refused(x, "fewest" + of, x.fewest(p, q), 5);
            Check.refused(x, "fewestAt" + of, x.fewestAt(p, q, 9), 5);
            Check.refused(x, "ways" + of, x.ways(p, q, 1), 5);
            Check.refused(x, "oddsThat" + of, x.oddsThat(p, q, 1, 1), 5);
            Check.refused(x, "ask" + of, x.ask(p, q, 3), 5);
            Check.refused(x, "kindestAt" + of, x.kindestAt(p, q, 9), 5);
            Check.refused(x, "greedyAt" + of, x.greedyAt(p, q, 0), 5);
            Check.refused(x, "slips" + of, x.slips(0, 1, p, q), 5);
            Check.refused(x, "slipAt" + of, x.slipAt(0, 1, p, q, 9, 0), 5);
        }
        Check.fine(x, "fewest(1, 30)", x.fewest(1, 30), 1);
        Check.fine(x, "fewest(30, 30)", x.fewest(30, 30), 1);
    }

    private static void noRows() {
        BreadScribes x = new BreadScribes();
        Check.refused(x, "fewest(99, 1)", x.fewest(99, 1), 8);
        Check.refused(x, "fewestAt(99, 1, 0)", x.fewestAt(99, 1, 0), 8);
        Check.refused(x, "kindestAt(99, 1, 0)", x.kindestAt(99, 1, 0), 8);
        Check.fine(x, "ways(99, 1, 5)", x.ways(99, 1, 5), 0);
        Check.refused(x, "oddsThat(99, 1, 5, 1)", x.oddsThat(99, 1, 5, 1), 8);
        Check.refused(x, "ask(99, 1, 5)", x.ask(99, 1, 5), 8);
        Check.refused(x, "ask(1, 2, 1), a single one", x.ask(1, 2, 1), 8);
        BreadScribes y = knowing(0);
        Check.refused(y, "fewest(1, 1)", y.fewest(1, 1), 8);
        Check.refused(y, "kindestAt(1, 1, 0)", y.kindestAt(1, 1, 0), 8);
        Check.fine(y, "ways(1, 1, 1)", y.ways(1, 1, 1), 0);
        // 2 3 4 6 12 24 are 11 by 8, and no 5 of them.
        BreadScribes z = knowing(Check.set(2, 3, 4, 6, 12, 24));
        Check.refused(z, "fewest(11, 8)", z.fewest(11, 8), 8);
        Check.refused(z, "fewestAt(11, 8, 0)", z.fewestAt(11, 8, 0), 8);
        Check.refused(z, "kindestAt(11, 8, 0)", z.kindestAt(11, 8, 0), 8);
    }

    private static void wrongOthers() {
        BreadScribes x = new BreadScribes();
        for (int k : new int[] {0, 6, -1, Integer.MAX_VALUE, Integer.MIN_VALUE}) {
            Check.refused(x, "ways(1, 2, " + k + ")", x.ways(1, 2, k), 5);
            Check.refused(x, "oddsThat(1, 2, " + k + ", 1)", x.oddsThat(1, 2, k, 1), 5);
            Check.refused(x, "ask(1, 2, " + k + ")", x.ask(1, 2, k), 5);
        }
        Check.refused(x, "oddsThat(0, 0, 0, 0)", x.oddsThat(0, 0, 0, 0), 2);
        Check.refused(x, "oddsThat(1, 2, 3, 31)", x.oddsThat(1, 2, 3, 31), 2);
        Check.refused(x, "oddsThat(1, 2, 3, -1)", x.oddsThat(1, 2, 3, -1), 2);
    }

    /** Where SLICES part the ROWS alike, also one that is in none, the first KNOWN one is asked. */
    private static void askOfSeveral() {
        BreadScribes x = knowing(Check.set(1, 4, 10, 20, 12, 15));
        Check.fine(x, "ways(2, 5, 3)", x.ways(2, 5, 3), 2);
        Check.fine(x, "ask(2, 5, 3)", x.ask(2, 5, 3), 10);
        x.learn(10, false);
        Check.refused(x, "ask(2, 5, 3) of a single ROW", x.ask(2, 5, 3), 8);
        // 30 alone is in 3 of 6.
        BreadScribes y = knowing(ALL & ~Check.set(2, 4, 6, 13, 15, 16, 22));
        Check.fine(y, "ways(9, 18, 5)", y.ways(9, 18, 5), 6);
        Check.fraction(y, "oddsThat(9, 18, 5, 30)", y.oddsThat(9, 18, 5, 30), 1, 2);
        Check.fine(y, "ask(9, 18, 5)", y.ask(9, 18, 5), 30);
    }

    private static void againstAll(int known, Random random) {
        String of = " of known " + Integer.toHexString(known);
        for (int i = 0; i < 8; i++) {
            BreadScribes x = knowing(known);
            int p = 1 + random.nextInt(i < 4 ? 12 : 60);
            int q = i == 7 ? 1 + random.nextInt(3) : 1 + random.nextInt(30);
            List<Integer> rows = new ArrayList<>();
            for (int s = 0; s < SETS.length; s++) {
                if ((SETS[s] & ~known) == 0 && SUMS[s] == p * (LOAF / q)) {
                    rows.add(SETS[s]);
                }
            }
            String share = "(" + p + ", " + q + ", ";
            atDue(x, "fewest" + share, of, p, q, rows.isEmpty() ? 0 : rows.get(0), false);
            atDue(x, "kindest" + share, of, p, q, kindest(rows), true);
            for (int k = 1; k <= 5; k++) {
                countsDue(x, share + k + ")" + of, known, p, q, k, rows, random);
            }
        }
    }

    private static int kindest(List<Integer> rows) {
        int best = 0;
        for (int row : rows) {
            // The rows come the fewer ahead, then by their first SLICES.
            boolean less = Integer.numberOfLeadingZeros(row) > Integer.numberOfLeadingZeros(best);
            if (best == 0 || less) {
                best = row;
            }
        }
        return best;
    }

    private static void atDue(BreadScribes x, String call, String of, int p, int q, int row, boolean kindest) {
        if (!kindest && row == 0) {
            Check.refused(x, call + of, x.fewest(p, q), 8);
        } else if (!kindest) {
            Check.fine(x, call + of, x.fewest(p, q), Integer.bitCount(row));
        }
        int k = 0;
        for (int slice = 1; slice <= 30; slice++) {
            if ((row & Check.set(slice)) != 0) {
                Check.fine(x, call + k + of, kindest ? x.kindestAt(p, q, k) : x.fewestAt(p, q, k), slice);
                k++;
            }
        }
        Check.refused(x, call + k + of, kindest ? x.kindestAt(p, q, k) : x.fewestAt(p, q, k), 8);
    }

    private static void countsDue(BreadScribes x, String of, int known, int p, int q, int k, List<Integer> rows,
            Random random) {
        int count = 0;
        int[] with = new int[31];
        for (int row : rows) {
            if (Integer.bitCount(row) == k) {
                count++;
                for (int slice = 1; slice <= 30; slice++) {
                    with[slice] += row >> (slice - 1) & 1;
                }
            }
        }
        Check.fine(x, "ways" + of, x.ways(p, q, k), count);
        int slice = 1 + random.nextInt(30);
        if (count == 0) {
            Check.refused(x, "oddsThat" + of, x.oddsThat(p, q, k, slice), 8);
        } else {
            int divisor = BigInteger.valueOf(with[slice]).gcd(BigInteger.valueOf(count)).intValue();
            Check.fraction(x, "oddsThat" + of, x.oddsThat(p, q, k, slice), with[slice] / divisor, count / divisor);
        }
        if (count < 2) {
            Check.refused(x, "ask" + of, x.ask(p, q, k), 8);
            return;
        }
        int best = 0;
        for (slice = 30; slice >= 1; slice--) {
            boolean known1 = (known & Check.set(slice)) != 0;
            if (known1 && (best == 0 || worse(with[slice], count) <= worse(with[best], count))) {
                best = slice;
            }
        }
        Check.fine(x, "ask" + of, x.ask(p, q, k), best);
    }

    private static int worse(int with, int count) {
        return Math.max(with, count - with);
    }

    private static void greedyExamples() {
        BreadScribes x = knowing(0);
        long[] row = {2, 3, 11, 148, 28328};
        for (int k = 0; k < row.length; k++) {
            Check.fine(x, "greedyAt(27, 29, " + k + ")", x.greedyAt(27, 29, k), row[k]);
        }
        Check.refused(x, "greedyAt(27, 29, 5), above 100,000,000", x.greedyAt(27, 29, 5), 9);
        Check.refused(x, "greedyAt(27, 29, 6), no such", x.greedyAt(27, 29, 6), 8);
        Check.refused(x, "greedyAt(27, 29, 7), no such", x.greedyAt(27, 29, 7), 8);
        Check.refused(x, "greedyAt(27, 29, max)", x.greedyAt(27, 29, Integer.MAX_VALUE), 8);
        Check.refused(x, "greedyAt(27, 29, -1)", x.greedyAt(27, 29, -1), 8);
        Check.fine(x, "greedyAt(1, 30, 0)", x.greedyAt(1, 30, 0), 30);
        Check.refused(x, "greedyAt(1, 30, 1)", x.greedyAt(1, 30, 1), 8);
        Check.refused(x, "greedyAt(1, 1, 0)", x.greedyAt(1, 1, 0), 5);
        Check.refused(x, "greedyAt(30, 30, 0)", x.greedyAt(30, 30, 0), 5);
        Check.refused(x, "greedyAt(99, 30, -1)", x.greedyAt(99, 30, -1), 5);
    }

    private static void greedyOfAll() {
        for (int q = 1; q <= 30; q++) {
            BreadScribes x = new BreadScribes();
            for (int p = 1; p < q; p++) {
                BigInteger top = BigInteger.valueOf(p);
                BigInteger bottom = BigInteger.valueOf(q);
                int k = 0;
                for (; top.signum() > 0; k++) {
                    BigInteger number = bottom.add(top).subtract(BigInteger.ONE).divide(top);
                    String call = "greedyAt(" + p + ", " + q + ", " + k + ")";
                    if (number.compareTo(BigInteger.valueOf(100_000_000)) > 0) {
                        Check.refused(x, call, x.greedyAt(p, q, k), 9);
                    } else {
                        Check.fine(x, call, x.greedyAt(p, q, k), number.longValue());
                    }
                    top = top.multiply(number).subtract(bottom);
                    bottom = bottom.multiply(number);
                }
                Check.refused(x, "greedyAt(" + p + ", " + q + ", " + k + ")", x.greedyAt(p, q, k), 8);
            }
        }
    }

    private static BreadScribes telling(int known, int... numbers) {
        BreadScribes x = knowing(known);
        x.tray(2, 0, 10);
        for (int i = 0; i < numbers.length; i++) {
            x.write(2, i, numbers[i]);
        }
        return x;
    }

    private static void slipExamples() {
        // 3 by 4 is 2 4: of 2 5 the second slips; of 6 4 the first; of 2 4 none.
        BreadScribes x = telling(ALL, 2, 5);
        Check.fine(x, "slips of 2 5", x.slips(2, 2, 3, 4), 1);
        Check.fine(x, "slipAt of 2 5, place", x.slipAt(2, 2, 3, 4, 0, 0), 1);
        Check.fine(x, "slipAt of 2 5, FIX", x.slipAt(2, 2, 3, 4, 0, 1), 4);
        Check.refused(x, "slipAt of 2 5, 1", x.slipAt(2, 2, 3, 4, 1, 0), 8);
        Check.refused(x, "slipAt of 2 5, -1", x.slipAt(2, 2, 3, 4, -1, 1), 8);
        Check.fine(x, "slips of 2, by its first number", x.slips(2, 1, 1, 5), 1);
        BreadScribes y = telling(ALL, 4, 2);
        Check.fine(y, "slips of 4 2, a ROW", y.slips(2, 2, 3, 4), 0);
        Check.refused(y, "slipAt of a ROW", y.slipAt(2, 2, 3, 4, 0, 0), 8);
        // Alike ones: 3 by 4 of 2 2: either place slips, FIX 4 each time.
        BreadScribes z = telling(ALL, 2, 2);
        Check.fine(z, "slips of 2 2", z.slips(2, 2, 3, 4), 2);
        Check.fine(z, "slipAt of 2 2, the second place", z.slipAt(2, 2, 3, 4, 1, 0), 1);
        Check.fine(z, "slipAt of 2 2, its FIX", z.slipAt(2, 2, 3, 4, 1, 1), 4);
        Check.fine(z, "slips of 2 2 for 1, alike", z.slips(2, 2, 1, 1), 0);
        // 4 is not KNOWN: of 2 4 for 3 by 4 no place, of 4 3 for 5 by 6 the first.
        BreadScribes u = telling(ALL & ~Check.set(4), 4, 3);
        Check.fine(u, "slips of 4 3", u.slips(2, 2, 5, 6), 1);
        Check.fine(u, "slipAt of 4 3, FIX", u.slipAt(2, 2, 5, 6, 0, 1), 2);
        Check.fine(u, "slips of 4 3 for 7 by 12, not KNOWN", u.slips(2, 2, 7, 12), 0);
        Check.fine(u, "slips of 4 alone for 1 by 4, not KNOWN", u.slips(2, 1, 1, 4), 0);
        Check.fine(u, "slips of 4 alone for 1 by 5", u.slips(2, 1, 1, 5), 1);
        // A ROW may be of more than 5.
        BreadScribes v = telling(ALL, 30, 20, 12, 6, 5, 4, 2, 7);
        Check.fine(v, "slips of 8 for 27 by 20", v.slips(2, 8, 27, 20), 1);
        Check.fine(v, "slipAt of 8", v.slipAt(2, 8, 27, 20, 0, 0), 7);
        Check.fine(v, "slipAt of 8", v.slipAt(2, 8, 27, 20, 0, 1), 15);
    }

    private static void slipStatuses() {
        BreadScribes x = telling(ALL, 2, 5, 30, 31, 0, -3);
        x.tray(1, 3, 3);
        Check.refused(x, "slips(-1, ..)", x.slips(-1, 2, 3, 4), 1);
        Check.refused(x, "slips(4, ..)", x.slips(4, 99, 3, 4), 1);
        Check.refused(x, "slips of a missing one", x.slips(0, 0, 0, 0), 3);
        Check.refused(x, "slips, too few", x.slips(1, 4, 0, 0), 4);
        Check.refused(x, "slips, too few for 9", x.slips(1, 9, 3, 4), 4);
        Check.refused(x, "slips of 9", x.slips(2, 9, 3, 4), 5);
        Check.refused(x, "slips of 11", x.slips(2, 11, 3, 4), 4);
        Check.refused(x, "slips of 0", x.slips(2, 0, 3, 4), 5);
        Check.refused(x, "slips of -1", x.slips(2, -1, 3, 4), 5);
        Check.refused(x, "slips of max", x.slips(2, Integer.MAX_VALUE, 3, 4), 4);
        Check.refused(x, "slips of 0 in the TRAY", x.slips(1, 3, 3, 4), 5);
        Check.refused(x, "slips of 31 in the TRAY", x.slips(2, 4, 3, 4), 5);
        Check.fine(x, "slips ahead of 31", x.slips(2, 3, 3, 4), 1);
        x.write(1, 0, 1L << 32 | 3);
        Check.refused(x, "slips of 2^32 + 3", x.slips(1, 1, 1, 4), 5);
        Check.refused(x, "slipAt(-1, ..)", x.slipAt(-1, 2, 3, 4, 0, 0), 1);
        Check.refused(x, "slipAt(4, ..)", x.slipAt(4, 2, 3, 4, 0, 5), 1);
        Check.refused(x, "slipAt of a missing one", x.slipAt(3, 2, 3, 4, 0, 0), 3);
        Check.refused(x, "slipAt, too few", x.slipAt(1, 4, 3, 4, 0, 7), 4);
        Check.refused(x, "slipAt of 9", x.slipAt(2, 9, 3, 4, 0, 0), 5);
        Check.refused(x, "slipAt of 31 in the TRAY", x.slipAt(2, 4, 3, 4, 0, 0), 5);
        Check.refused(x, "slipAt, what 2", x.slipAt(2, 2, 3, 4, 9, 2), 5);
        Check.refused(x, "slipAt, what -1", x.slipAt(2, 2, 3, 4, 0, -1), 5);
        Check.refused(x, "slipAt, no such", x.slipAt(2, 2, 3, 4, 1, 1), 8);
    }

    private static void slipsAgainstAll(Random random) {
        int met = 0;
        for (int i = 0; i < 4000; i++) {
            int n = 1 + random.nextInt(8);
            int[] numbers = new int[n];
            int[] right = new int[n];
            int set = 0;
            long sum = 0;
            for (int j = 0; j < n; j++) {
                do {
                    right[j] = 1 + random.nextInt(30);
                } while ((set & Check.set(right[j])) != 0);
                set |= Check.set(right[j]);
                sum += LOAF / right[j];
                numbers[j] = right[j];
            }
            long gcd = BigInteger.valueOf(sum).gcd(BigInteger.valueOf(LOAF)).longValue();
            int p = LOAF / gcd <= 30 && sum / gcd <= 99 ? (int) (sum / gcd) : 1 + random.nextInt(99);
            int q = LOAF / gcd <= 30 && sum / gcd <= 99 ? (int) (LOAF / gcd) : 1 + random.nextInt(30);
            if (i % 3 != 0) {
                numbers[random.nextInt(n)] = 1 + random.nextInt(30);
            }
            int known = i % 2 == 0 ? ALL : ALL & ~Check.set(right[random.nextInt(n)]) & ~Check.set(numbers[random.nextInt(n)]);
            known = i % 4 == 1 ? ALL & ~Check.set(numbers[random.nextInt(n)]) : known;
            BreadScribes x = telling(known, numbers);
            String call = "slips of " + Arrays.toString(numbers) + " for " + p + " by " + q;
            boolean isRow = isRow(numbers, known, p, q);
            int found = 0;
            for (int place = 0; place < n && !isRow; place++) {
                for (int fix = 1; fix <= 30; fix++) {
                    int[] mended = numbers.clone();
                    mended[place] = fix;
                    if (fix != numbers[place] && isRow(mended, known, p, q)) {
                        Check.fine(x, call + ", place", x.slipAt(2, n, p, q, found, 0), place);
                        Check.fine(x, call + ", FIX", x.slipAt(2, n, p, q, found, 1), fix);
                        found++;
                        met++;
                    }
                }
            }
            Check.fine(x, call, x.slips(2, n, p, q), found);
            Check.refused(x, call, x.slipAt(2, n, p, q, found, 0), 8);
        }
        Check.due("slips met at random, a hundred at least", met >= 100, true);
    }

    private static boolean isRow(int[] slices, int known, int p, int q) {
        int set = 0;
        long sum = 0;
        for (int slice : slices) {
            if ((set & Check.set(slice)) != 0 || (known & Check.set(slice)) == 0) {
                return false;
            }
            set |= Check.set(slice);
            sum += LOAF / slice;
        }
        return sum == p * (LOAF / q);
    }
}
