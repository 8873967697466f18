import java.math.BigInteger;
import java.util.Arrays;
import java.util.Random;

/** Promises 42 to 45: PLATE, LUCK, BURNT. */
public final class OddsTest {
    private static final long LOAF = 2329089562800L;

    private OddsTest() {
    }

    public static void main(String[] args) {
        plateExamples();
        sets();
        luckExamples();
        luckStatuses();
        Random random = new Random(5);
        for (int i = 0; i < 150; i++) {
            int[] slices = randomSlices(random, i < 30 ? 12 : random.nextInt(13));
            plateAgainstAll(slices);
            luckAgainstAll(slices, random);
        }
        burntExamples();
        burntOfAll();
        Check.end("OddsTest");
    }

    private static void plateExamples() {
        BreadScribes x = new BreadScribes();
        Check.fine(x, "plateMove of 3, ahead of any", x.plateMove(Check.set(3)), 3);
        Check.fine(x, "plateMove of 4", x.plateMove(Check.set(4)), 4);
        Check.fine(x, "plate of none", x.plate(0), 0);
        Check.refused(x, "plateMove of none", x.plateMove(0), 8);
        Check.fine(x, "plate of 1", x.plate(1), 1);
        Check.fine(x, "plateMove of 1", x.plateMove(1), 1);
        // Two small ones: who begins puts one, the other one puts the other.
        Check.fine(x, "plate of 2 3", x.plate(Check.set(2, 3)), 0);
        Check.refused(x, "plateMove of 2 3", x.plateMove(Check.set(2, 3)), 8);
        // 1 fills the plate; behind 30 it can't come.
        Check.fine(x, "plate of 1 30", x.plate(Check.set(1, 30)), 1);
        Check.fine(x, "plateMove of 1 30", x.plateMove(Check.set(1, 30)), 1);
        // 2 3 6 are just a loaf.
        Check.fine(x, "plate of 2 3 6", x.plate(Check.set(2, 3, 6)), 1);
        Check.fine(x, "plateMove of 2 3 6", x.plateMove(Check.set(2, 3, 6)), 2);
        // 2 3 5 are more than a loaf: any two, and who begins loses.
        Check.fine(x, "plate of 2 3 5", x.plate(Check.set(2, 3, 5)), 0);
        Check.fine(x, "plate of 30", x.plate(Check.set(30)), 1);
        Check.fine(x, "plateMove of 30", x.plateMove(Check.set(30)), 30);
        Check.fine(x, "plate of 19 .. 30, all fit", x.plate(((1 << 12) - 1) << 18), 0);
        Check.fine(x, "plate of 20 .. 30, all fit", x.plate(((1 << 11) - 1) << 19), 1);
        Check.fine(x, "plateMove of 20 .. 30", x.plateMove(((1 << 11) - 1) << 19), 20);
    }

    private static void sets() {
        BreadScribes x = new BreadScribes();
        int thirteen = (1 << 13) - 1;
        for (int set : new int[] {-1, Integer.MIN_VALUE, 1 << 30, Integer.MAX_VALUE, thirteen, 1 << 30 | 1, thirteen << 17}) {
            Check.refused(x, "plate(" + set + ")", x.plate(set), 5);
            Check.refused(x, "plateMove(" + set + ")", x.plateMove(set), 5);
            Check.refused(x, "luck(" + set + ", ..)", x.luck(set, 1, 1, 2), 5);
        }
        Check.fine(x, "luck of 12", x.luck((1 << 12) - 1, 12, 99, 1));
    }

    private static void luckExamples() {
        BreadScribes x = new BreadScribes();
        Check.fraction(x, "luck of none", x.luck(0, 0, 1, 30), 1, 1);
        Check.fraction(x, "luck of 2 3 4, two", x.luck(Check.set(2, 3, 4), 2, 3, 4), 2, 3);
        Check.fraction(x, "luck of 2 3 6, all", x.luck(Check.set(2, 3, 6), 3, 1, 1), 1, 1);
        Check.fraction(x, "luck of 2 3 6, all, 29 by 30", x.luck(Check.set(2, 3, 6), 3, 29, 30), 0, 1);
        Check.fraction(x, "luck of 2 3 6, one, 1 by 2", x.luck(Check.set(2, 3, 6), 1, 1, 2), 1, 1);
        Check.fraction(x, "luck of 2 3 6, one, 1 by 3", x.luck(Check.set(2, 3, 6), 1, 1, 3), 2, 3);
    }

    private static void luckStatuses() {
        BreadScribes x = new BreadScribes();
        Check.refused(x, "luck of one, two", x.luck(1, 2, 1, 1), 8);
        Check.refused(x, "luck of none, 12", x.luck(0, 12, 1, 1), 8);
        Check.refused(x, "luck of none, 13", x.luck(0, 13, 1, 1), 5);
        Check.refused(x, "luck, -1", x.luck(1, -1, 1, 1), 5);
        Check.refused(x, "luck of 0 by 1", x.luck(1, 2, 0, 1), 5);
        Check.refused(x, "luck of 100 by 1", x.luck(1, 2, 100, 1), 5);
        Check.refused(x, "luck of 1 by 0", x.luck(1, 1, 1, 0), 5);
        Check.refused(x, "luck of 1 by 31", x.luck(1, 1, 1, 31), 5);
    }

    private static int[] randomSlices(Random random, int count) {
        int set = 0;
        int[] slices = new int[count];
        int most = count > 8 || random.nextBoolean() ? 30 : 12;
        for (int i = 0; i < count; ) {
            int slice = 1 + random.nextInt(most);
            if ((set & Check.set(slice)) == 0) {
                set |= Check.set(slice);
                slices[i++] = slice;
            }
        }
        Arrays.sort(slices);
        return slices;
    }

    private static void plateAgainstAll(int[] slices) {
        BreadScribes x = new BreadScribes();
        int set = Check.set(slices);
        int move = 0;
        for (int slice : slices) {
            if (move == 0 && !wins(set & ~Check.set(slice), LOAF - LOAF / slice)) {
                move = slice;
            }
        }
        String of = " of " + Arrays.toString(slices);
        Check.fine(x, "plate" + of, x.plate(set), move == 0 ? 0 : 1);
        if (move == 0) {
            Check.refused(x, "plateMove" + of, x.plateMove(set), 8);
        } else {
            Check.fine(x, "plateMove" + of, x.plateMove(set), move);
        }
    }

    private static boolean wins(int left, long room) {
        for (int slice = 30; slice >= 1; slice--) {
            int one = left & Check.set(slice);
            if (one != 0 && LOAF / slice <= room && !wins(left & ~one, room - LOAF / slice)) {
                return true;
            }
        }
        return false;
    }

    private static void luckAgainstAll(int[] slices, Random random) {
        BreadScribes x = new BreadScribes();
        int set = Check.set(slices);
        for (int k = 0; k <= 12; k++) {
            int q = 1 + random.nextInt(30);
            int p = 1 + random.nextInt(Math.min(99, q * (1 + k / 4)));
            String call = "luck of " + Arrays.toString(slices) + ", " + k + ", " + p + " by " + q;
            if (k > slices.length) {
                Check.refused(x, call, x.luck(set, k, p, q), 8);
                continue;
            }
            long all = within(slices, 0, k, Long.MAX_VALUE);
            long some = within(slices, 0, k, p * (LOAF / q));
            long divisor = BigInteger.valueOf(some).gcd(BigInteger.valueOf(all)).longValue();
            Check.fraction(x, call, x.luck(set, k, p, q), some / divisor, all / divisor);
        }
    }

    private static long within(int[] slices, int from, int k, long room) {
        if (room < 0) {
            return 0;
        }
        if (k == 0) {
            return 1;
        }
        long count = 0;
        for (int i = from; i < slices.length; i++) {
            count += within(slices, i + 1, k - 1, room - LOAF / slices[i]);
        }
        return count;
    }

    private static void burntExamples() {
        BreadScribes x = new BreadScribes();
        Check.fraction(x, "burnt(1, 1), ODDS 4", x.burnt(1, 1), 1, 4);
        Check.fraction(x, "burnt(2, 1), ODDS 4", x.burnt(2, 1), 7, 16);
        Check.fraction(x, "burnt(0, 0)", x.burnt(0, 0), 1, 1);
        Check.fraction(x, "burnt(0, 1)", x.burnt(0, 1), 0, 1);
        Check.fraction(x, "burnt(3, 12)", x.burnt(3, 12), 0, 1);
        Check.refused(x, "burnt(13, 0)", x.burnt(13, 0), 5);
        Check.refused(x, "burnt(0, 13)", x.burnt(0, 13), 5);
        Check.refused(x, "burnt(-1, 0)", x.burnt(-1, 0), 5);
        Check.refused(x, "burnt(0, -1)", x.burnt(0, -1), 5);
        Check.refused(x, "burnt(max, min)", x.burnt(Integer.MAX_VALUE, Integer.MIN_VALUE), 5);
        x.rule(0);
        Check.fraction(x, "burnt(12, 1), ODDS 0", x.burnt(12, 1), 0, 1);
        Check.fraction(x, "burnt(12, 0), ODDS 0", x.burnt(12, 0), 1, 1);
        x.rule(16);
        Check.fraction(x, "burnt(12, 12), ODDS 16", x.burnt(12, 12), 1, 1);
    }

    private static void burntOfAll() {
        for (int odds = 0; odds <= 16; odds++) {
            // What of 16^n cases has j burnt, loaf by loaf.
            BigInteger[] cases = new BigInteger[14];
            Arrays.fill(cases, BigInteger.ZERO);
            cases[0] = BigInteger.ONE;
            for (int n = 0; n <= 12; n++) {
                BigInteger all = BigInteger.valueOf(16).pow(n);
                BigInteger some = BigInteger.ZERO;
                BreadScribes x = Check.with("odds " + odds + ";");
                for (int k = 12; k >= 0; k--) {
                    some = some.add(cases[k]);
                    BigInteger divisor = some.gcd(all);
                    Check.fraction(x, "burnt(" + n + ", " + k + "), ODDS " + odds, x.burnt(n, k),
                            some.divide(divisor).longValue(), all.divide(divisor).longValue());
                }
                for (int j = 12; j >= 0; j--) {
                    BigInteger burning = j == 0 ? BigInteger.ZERO : cases[j - 1].multiply(BigInteger.valueOf(odds));
                    cases[j] = cases[j].multiply(BigInteger.valueOf(16 - odds)).add(burning);
                }
            }
        }
    }
}
