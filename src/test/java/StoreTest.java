import java.util.ArrayList;
import java.util.Arrays;
import java.util.List;
import java.util.Random;

/** Promises 38 to 41: REACH, FILL, found once more here by trying all. */
public final class StoreTest {
    private static final long LOAF = 2329089562800L;

    private StoreTest() {
    }

    public static void main(String[] args) {
        reachExamples();
        reachStatuses();
        Random random = new Random(11);
        for (int i = 0; i < 150; i++) {
            reachAgainstAll(i < 30 ? Check.set(i + 1) : random.nextInt() & random.nextInt() & random.nextInt() & (1 << 30) - 1);
        }
        fillExamples();
        fillStatuses();
        for (int i = 0; i < 200; i++) {
            fillAgainstAll(random);
        }
        Check.end("StoreTest");
    }

    private static void reachDue(BreadScribes x, int slice, int... links) {
        Check.fine(x, "reach(" + slice + ")", x.reach(slice), links.length - 1);
        for (int k = 0; k < links.length; k++) {
            Check.fine(x, "reachAt(" + slice + ", " + k + ")", x.reachAt(slice, k), links[k]);
        }
        Check.refused(x, "reachAt behind the last", x.reachAt(slice, links.length), 8);
    }

    private static void reachExamples() {
        BreadScribes x = Check.with("store 1;");
        reachDue(x, 1, 1);
        reachDue(x, 2, 1, 2);
        reachDue(x, 30, 1, 30);
        BreadScribes y = Check.with("store 3; store 7;");
        reachDue(y, 3, 3);
        reachDue(y, 4, 3, 4);
        reachDue(y, 12, 3, 12);
        reachDue(y, 5, 3, 4, 5);
        reachDue(y, 14, 7, 14);
        Check.fine(y, "store(4), it is but asked", y.store(4), 0);
        // Whatever more than 99 may be.
        BreadScribes z = Check.with("store 1; store 2 times 99; store 4 times 99;");
        reachDue(z, 4, 4);
        BreadScribes u = Check.with("store 1; store 30 times 99;");
        reachDue(u, 2, 1, 2);
        BreadScribes v = Check.with("store 2 times 0;");
        Check.refused(v, "reach(2) of none", v.reach(2), 8);
    }

    private static void reachStatuses() {
        BreadScribes x = Check.with("store 3;");
        Check.refused(x, "reach(0)", x.reach(0), 2);
        Check.refused(x, "reach(31)", x.reach(31), 2);
        Check.refused(x, "reach(max)", x.reach(Integer.MAX_VALUE), 2);
        Check.refused(x, "reachAt(0, 9)", x.reachAt(0, 9), 2);
        Check.refused(x, "reachAt(31, 0)", x.reachAt(31, 0), 2);
        Check.refused(x, "reachAt(-1, 0)", x.reachAt(-1, 0), 2);
        Check.refused(x, "reach(2)", x.reach(2), 8);
        Check.refused(x, "reachAt(2, 0)", x.reachAt(2, 0), 8);
        Check.refused(x, "reachAt(4, -1)", x.reachAt(4, -1), 8);
        Check.refused(x, "reachAt(4, 2)", x.reachAt(4, 2), 8);
        Check.refused(x, "reachAt(4, max)", x.reachAt(4, Integer.MAX_VALUE), 8);
        BreadScribes y = new BreadScribes();
        Check.refused(y, "reach(1) of nothing", y.reach(1), 8);
    }

    private static boolean comesOf(int part, int slice) {
        for (int n = 2; n <= 30; n++) {
            if (slice * n == part) {
                return true;
            }
        }
        for (int other = 1; other <= 30; other++) {
            if (LOAF / part + LOAF / other == LOAF / slice) {
                return true;
            }
        }
        return false;
    }

    /** All chains of the fewest, one a list, grown from the STORE on. */
    private static void reachAgainstAll(int stockSet) {
        StringBuilder text = new StringBuilder();
        List<List<Integer>> chains = new ArrayList<>();
        for (int slice = 1; slice <= 30; slice++) {
            if ((stockSet & Check.set(slice)) != 0) {
                text.append("store ").append(slice).append(';');
                chains.add(List.of(slice));
            }
        }
        BreadScribes x = Check.with(text.toString());
        int there = 0;
        for (int step = 0; step < 30 && !chains.isEmpty(); step++) {
            // One behind the other the chains stay in order, so the first that comes to a SLICE is the first.
            List<List<Integer>> longer = new ArrayList<>();
            int come = 0;
            for (List<Integer> chain : chains) {
                int last = chain.get(chain.size() - 1);
                if (((there | come) & Check.set(last)) == 0) {
                    come |= Check.set(last);
                    reachDue(x, last, chain.stream().mapToInt(Integer::intValue).toArray());
                    for (int part = 1; part <= 30; part++) {
                        if (comesOf(part, last)) {
                            List<Integer> next = new ArrayList<>(chain);
                            next.add(part);
                            longer.add(next);
                        }
                    }
                }
            }
            there |= come;
            chains = longer;
        }
        for (int slice = 1; slice <= 30; slice++) {
            if ((there & Check.set(slice)) == 0) {
                Check.refused(x, "reach(" + slice + ") of " + text, x.reach(slice), 8);
            }
        }
    }

    private static void fillDue(BreadScribes x, int man, int... slices) {
        Check.fine(x, "fill(" + man + ")", x.fill(man), slices.length);
        for (int k = 0; k < slices.length; k++) {
            Check.fine(x, "fillAt(" + man + ", " + k + ")", x.fillAt(man, k), slices[k]);
        }
        Check.refused(x, "fillAt behind the last", x.fillAt(man, slices.length), 8);
    }

    private static void fillExamples() {
        String men = "man a due 3 by 4 has 2; man b due 1 by 2 has 2; man c due 1 by 4 has 2; man d due 5 by 6;";
        BreadScribes x = Check.with("store 4; store 2; store 3; store 6; store 12; known 1;" + men);
        fillDue(x, 0, 4);
        fillDue(x, 1);
        Check.refused(x, "fill(2), he LACKS less than 0", x.fill(2), 8);
        Check.refused(x, "fillAt(2, 0), he LACKS less than 0", x.fillAt(2, 0), 8);
        fillDue(x, 3, 2, 3);
        // What he HAS is not given him once more, and the STORE's last one is still his.
        x.give(0, 6);
        fillDue(x, 0, 12);
        // Of each SLICE but one is his: two of 4 don't make a half.
        BreadScribes y = Check.with("store 4 times 2; man a due 1 by 2;");
        Check.refused(y, "fill(0) of two of 4", y.fill(0), 8);
        y.bake(1);
        y.split(1, 2);
        fillDue(y, 0, 2);
        // 2 3 4 6 12 24 are 11 by 8, and no 5 of them; without 24 they are 4 by 3.
        BreadScribes z = Check.with("store 2; store 3; store 4; store 6; store 12; store 24; man a due 11 by 8;");
        Check.refused(z, "fill(0) of six", z.fill(0), 8);
        z.owe(0, 4, 3);
        fillDue(z, 0, 2, 3, 4, 6, 12);
    }

    private static void fillStatuses() {
        BreadScribes x = Check.with("store 4; man a due 1 by 4;");
        Check.refused(x, "fill(-1)", x.fill(-1), 2);
        Check.refused(x, "fill(1)", x.fill(1), 2);
        Check.refused(x, "fillAt(-1, 0)", x.fillAt(-1, 0), 2);
        Check.refused(x, "fillAt(1, 0)", x.fillAt(1, 0), 2);
        Check.refused(x, "fillAt(0, -1)", x.fillAt(0, -1), 8);
        Check.refused(x, "fillAt(0, 1)", x.fillAt(0, 1), 8);
        Check.refused(x, "fillAt(0, max)", x.fillAt(0, Integer.MAX_VALUE), 8);
        BreadScribes y = new BreadScribes();
        Check.refused(y, "fill(0) without MEN", y.fill(0), 2);
    }

    private static void fillAgainstAll(Random random) {
        int stockSet = 0;
        int having = 0;
        StringBuilder text = new StringBuilder();
        StringBuilder has = new StringBuilder();
        for (int slice = 1; slice <= 30; slice++) {
            int lot = random.nextInt(7);
            if (lot < 3) {
                stockSet |= Check.set(slice);
                text.append("store ").append(slice).append(" times ").append(1 + random.nextInt(99)).append(';');
            }
            if (slice > 3 && (lot == 0 || lot == 6) && random.nextInt(3) == 0) {
                having |= Check.set(slice);
                has.append(' ').append(slice);
            }
        }
        int p = 1 + random.nextInt(40);
        int q = 1 + random.nextInt(30);
        BreadScribes x = Check.with("known;" + text + "man a due " + p + " by " + q + " has" + has + ";");
        long lacks = p * (LOAF / q);
        for (int slice = 1; slice <= 30; slice++) {
            lacks -= (having & Check.set(slice)) != 0 ? LOAF / slice : 0;
        }
        int[] best = lacks < 0 ? null : lacks == 0 ? new int[0] : null;
        for (int size = 1; size <= 5 && best == null && lacks > 0; size++) {
            best = firstOf(stockSet & ~having, new int[size], 0, 1, lacks);
        }
        if (best == null) {
            Check.refused(x, "fill of " + text + " has" + has, x.fill(0), 8);
            Check.refused(x, "fillAt of " + text + " has" + has, x.fillAt(0, 0), 8);
        } else {
            fillDue(x, 0, best);
        }
    }

    private static int[] firstOf(int allowed, int[] row, int placed, int from, long rest) {
        if (placed == row.length) {
            return rest == 0 ? Arrays.copyOf(row, placed) : null;
        }
        for (int slice = from; slice <= 30; slice++) {
            if ((allowed & Check.set(slice)) != 0) {
                row[placed] = slice;
                int[] found = firstOf(allowed, row, placed + 1, slice + 1, rest - LOAF / slice);
                if (found != null) {
                    return found;
                }
            }
        }
        return null;
    }
}
