import java.math.BigInteger;
import java.util.ArrayList;
import java.util.List;
import java.util.Random;

/** Promises 46 to 48: DAYS that are LIVED, and some at random, lived once more here by a DaysModel. */
public final class DaysTest {
    private static final String MEN = "man a due 3 by 4 has 2; man b due 2 by 5;";

    private DaysTest() {
    }

    public static void main(String[] args) {
        liveStatuses();
        deeds();
        missed();
        missedByTooMany();
        draws();
        anyWithoutMen();
        tests();
        comparesLacks();
        loops();
        stops();
        threeHundred();
        leftToBeDone();
        staysSo();
        livedKeeps();
        mean();
        meanStatuses();
        Random random = new Random(3);
        for (int i = 0; i < 1500; i++) {
            atRandom(random);
        }
        Check.end("DaysTest");
    }

    /** live() by a seed, and what lived() tells then. */
    private static void liveDue(BreadScribes x, int seed, int steps, int missed, int cuts, int given, int baked,
            int left) {
        Check.fine(x, "live(" + seed + ")", x.live(seed), steps);
        int[] want = {missed, cuts, given, baked, left};
        for (int what = 0; what < want.length; what++) {
            Check.fine(x, "lived(" + what + ")", x.lived(what), want[what]);
        }
    }

    private static void liveStatuses() {
        BreadScribes x = new BreadScribes();
        Check.refused(x, "live(-1) without DAYS", x.live(-1), 5);
        Check.refused(x, "live(10000) without DAYS", x.live(10_000), 5);
        Check.refused(x, "live(0) without DAYS", x.live(0), 8);
        Check.refused(x, "lived(5)", x.lived(5), 5);
        Check.refused(x, "lived(-1)", x.lived(-1), 5);
        Check.refused(x, "lived(4) ahead of any", x.lived(4), 8);
        Check.days(x, "");
        liveDue(x, 9_999, 0, 0, 0, 0, 0, 0);
        Check.refused(x, "lived(5)", x.lived(5), 5);
        Check.refused(x, "live(max)", x.live(Integer.MAX_VALUE), 5);
    }

    private static void deeds() {
        BreadScribes x = Check.with("store 2; store 3;" + MEN,
                "bake 9; cut 3 4 12; split 1 5; give b 2; take a 2; give b 5; bake 1;");
        liveDue(x, 0, 7, 0, 2, 2, 10, 0);
        int[] want = {0, 9, 1, 0, 1, 4, 0, 0, 0, 0, 0, 0, 1};
        for (int slice = 1; slice < want.length; slice++) {
            Check.fine(x, "store(" + slice + ")", x.store(slice), want[slice]);
        }
        Check.fine(x, "man(0, 2)", x.man(0, 2), 0);
        Check.fine(x, "man(1, 2)", x.man(1, 2), Check.set(2, 5));
        Check.fine(x, "many(5)", x.many(5), 2);
    }

    private static void missed() {
        BreadScribes x = Check.with("store 2; store 16; store 3;" + MEN,
                "cut 5 10 10; cut 2 3 5; cut 2 2 2; split 1 2; split 16 2; split 30 30; give a 2; give a 7; take b 2;");
        String ahead = Check.all(x);
        Check.fine(x, "live(0)", x.live(0), 9);
        Check.fine(x, "lived(0)", x.lived(0), 9);
        for (int what = 1; what <= 4; what++) {
            Check.fine(x, "lived(" + what + ")", x.lived(what), 0);
        }
        String behind = Check.all(x);
        Check.due("all but lived", behind.substring(0, behind.indexOf("lived")), ahead.substring(0, ahead.indexOf("lived")));
    }

    private static void missedByTooMany() {
        BreadScribes x = Check.with("store 1 times 95; store 2 times 99; store 3 times 99; store 4 times 98; store 6;" + MEN,
                "bake 5; bake 4; bake 1; cut 2 3 6; cut 6 12 12; split 1 2; split 2 2; take a 2; give b 2; take a 2;"
                + "split 2 2; cut 2 4 4;");
        // MISSED: bake 5, the second bake 1, cut 2 3 6, split 1 2, split 2 2, take a 2, split 2 2, cut 2 4 4.
        liveDue(x, 0, 12, 8, 1, 1, 4, 0);
        Check.fine(x, "store(1)", x.store(1), 99);
        Check.fine(x, "store(2)", x.store(2), 99);
        Check.fine(x, "store(4)", x.store(4), 98);
        Check.fine(x, "man(0, 2)", x.man(0, 2), 0);
        Check.fine(x, "man(1, 2)", x.man(1, 2), Check.set(2));
    }

    private static void draws() {
        // s: 0, 10993, 34268, 43813: 1374, 4283, 5476: MAN 0 of 2, SLICE 24, 4 of 16.
        BreadScribes x = Check.with("store 24; odds 4; man a due 1 by 1; man b due 1 by 1;", "any;");
        liveDue(x, 0, 1, 0, 0, 1, 0, 0);
        Check.fine(x, "man(0, 2)", x.man(0, 2), Check.set(24));
        BreadScribes y = Check.with("store 24; odds 5; man a due 1 by 1; man b due 1 by 1;", "any;");
        liveDue(y, 0, 1, 1, 0, 0, 0, 0);
        Check.fine(y, "store(24)", y.store(24), 1);
        // Each STEP goes on from the draws ahead: 24920, 58169, 12660: 3115, 7271, 1582: MAN 1 of 3, SLICE 12, 14.
        BreadScribes z = Check.with("store 12; odds 0; man a due 1 by 1; man b due 1 by 1; man c due 1 by 1;", "any; any;");
        liveDue(z, 0, 2, 1, 0, 1, 0, 0);
        Check.fine(z, "man(1, 2)", z.man(1, 2), Check.set(12));
        BreadScribes u = Check.with("store 12; odds 15; man a due 1 by 1;", "any; any;");
        liveDue(u, 0, 2, 1, 1, 0, 0, 0);
        Check.fine(u, "store(24)", u.store(24), 2);
        BreadScribes v = Check.with("store 12; odds 14; man a due 1 by 1;", "any; any;");
        liveDue(v, 0, 2, 1, 0, 1, 0, 0);
    }

    private static void anyWithoutMen() {
        StringBuilder all = new StringBuilder("odds 0;");
        for (int slice = 1; slice <= 30; slice++) {
            all.append("store ").append(slice).append(';');
        }
        BreadScribes x = Check.with(all.toString(), "any; any; any;");
        liveDue(x, 0, 3, 3, 0, 0, 0, 0);
        x.rule(16);
        liveDue(x, 0, 3, 3, 0, 0, 0, 0);
        // One who came without a NAME is a MAN, too.
        x.rule(0);
        x.come(1, 1);
        liveDue(x, 0, 3, 0, 0, 3, 0, 0);
    }

    private static void tests() {
        BreadScribes x = Check.with("store 3 times 5;" + MEN,
                "when holds 3 < 5; stop; end; when holds 3 > 5; stop; end; when holds 3 = 4; stop; end;"
                + "when holds 3 < 6; bake 1; end; when holds 3 > 4; bake 2; end; when holds 3 = 5; bake 4; end;"
                + "when even a; stop; end; when holds 30 = 0; bake 8; end;");
        liveDue(x, 0, 12, 0, 0, 0, 15, 0);
        BreadScribes y = Check.with("store 4;" + MEN, "when even a; bake 9; end; give a 4; when even a; bake 1; end;");
        liveDue(y, 0, 4, 0, 0, 1, 1, 0);
    }

    private static void comparesLacks() {
        BreadScribes x = Check.with("man a due 2 by 1; man b due 99 by 1; man c due 1 by 2 has 1; man d due 61 by 30;",
                "when lacks a = 2; bake 1; end; when lacks a < 2; stop; end; when lacks a > 2; stop; end;"
                + "when lacks b = 99; bake 2; end; when lacks c < 0; bake 4; end; when lacks c = 0; stop; end;"
                + "when lacks d > 2; bake 8; end; when lacks d < 3; bake 9; end;");
        liveDue(x, 0, 13, 0, 0, 0, 24, 0);
    }

    private static void loops() {
        BreadScribes x = Check.with("", "loop 3; bake 1; loop 2; bake 2; end; end; bake 9;");
        // 1 for the loop, 3 times 1 + 1 + 2, 1 behind it.
        liveDue(x, 0, 14, 0, 0, 0, 24, 0);
        BreadScribes y = Check.with("", "loop 99; end; loop 99; loop 99; end; end; bake 1;");
        liveDue(y, 0, 102, 0, 0, 0, 1, 0);
        BreadScribes z = Check.with("", "loop 2; when holds 1 = 0; bake 1; loop 2; bake 1; end; end; end;");
        liveDue(z, 0, 7, 0, 0, 0, 3, 0);
        Check.fine(z, "live once more", z.live(0), 3);
    }

    private static void stops() {
        BreadScribes x = Check.with("", "bake 1; stop; bake 1;");
        liveDue(x, 0, 2, 0, 0, 0, 1, 0);
        BreadScribes y = Check.with("", "loop 9; loop 9; bake 1; when holds 1 > 4; stop; end; end; end; bake 9;");
        liveDue(y, 0, 13, 0, 0, 0, 5, 0);
    }

    private static void threeHundred() {
        BreadScribes x = Check.with("", "loop 99; loop 99; when holds 7 > 0; end; end; end;");
        liveDue(x, 0, 300, 0, 0, 0, 0, 1);
        // 1 + 98 times 3 STEPS till the loop's end, 5 more make 300; 99 loaves can be.
        BreadScribes y = Check.with("", "loop 98; bake 1; bake 1; bake 1; end; bake 1; bake 1; bake 1; bake 1; bake 1;");
        liveDue(y, 0, 300, 200, 0, 0, 99, 0);
        BreadScribes z = Check.with("", "loop 98; bake 1; bake 1; bake 1; end; bake 1; bake 1; bake 1; bake 1; bake 1; bake 1;");
        liveDue(z, 0, 300, 200, 0, 0, 99, 1);
    }

    private static void leftToBeDone() {
        String behind299 = "loop 98; bake 1; bake 1; bake 1; end; bake 1; bake 1; bake 1; bake 1;";
        left(behind299 + "stop;", 300, 0);
        left(behind299 + "stop; bake 1;", 300, 0);
        left(behind299 + "bake 1; stop;", 300, 1);
        left(behind299 + "when holds 1 = 0; bake 1; end;", 300, 0);
        left(behind299 + "when holds 1 = 0; bake 1; end; stop;", 300, 1);
        left(behind299 + "when holds 1 = 99; end;", 300, 0);
        left(behind299 + "when holds 1 = 99; bake 1; end;", 300, 1);
        left(behind299 + "loop 99; end;", 300, 0);
        left(behind299 + "loop 99; bake 1; end;", 300, 1);
        left(behind299, 299, 0);
        left("loop 99; loop 1; end; loop 1; end; end; loop 50; end; loop 99; bake 1; end;", 300, 0);
        left("loop 99; loop 1; end; loop 1; end; end; loop 50; end; loop 99; bake 1; end; bake 1;", 300, 1);
        left("loop 13; loop 22; any; end; end;", 300, 0);
        left("loop 13; loop 22; any; end; end; any;", 300, 1);
        left("loop 23; loop 12; any; end; end;", 300, 0);
        left("loop 23; loop 13; any; end; end;", 300, 1);
    }

    private static void left(String days, int steps, int left) {
        BreadScribes x = Check.with("", days);
        Check.fine(x, "live(0) of " + days, x.live(0), steps);
        Check.fine(x, "lived(4) of " + days, x.lived(4), left);
    }

    private static void staysSo() {
        BreadScribes x = Check.with("store 2;" + MEN, "bake 2; give b 2; split 1 2;");
        liveDue(x, 0, 3, 0, 1, 1, 2, 0);
        liveDue(x, 0, 3, 1, 1, 0, 2, 0);
        Check.fine(x, "store(1)", x.store(1), 2);
        Check.fine(x, "store(2)", x.store(2), 4);
        Check.fine(x, "many(5)", x.many(5), 2);
    }

    private static void livedKeeps() {
        BreadScribes x = Check.with(MEN, "bake 2; give b 2; split 1 2;");
        x.mark();
        liveDue(x, 0, 3, 1, 1, 0, 2, 0);
        x.live(10_000);
        Check.fine(x, "lived(0) behind STATUS 5", x.lived(0), 1);
        x.mean(0, 3);
        Check.fine(x, "lived(3) behind mean", x.lived(3), 2);
        x.back();
        Check.fine(x, "lived(3) behind back", x.lived(3), 2);
        Check.days(x, "any;");
        Check.fine(x, "lived(3) behind days", x.lived(3), 2);
        Check.bakery(x, "");
        Check.fine(x, "lived(1) behind bakery", x.lived(1), 1);
        x.live(0);
        Check.fine(x, "lived(1) behind STATUS 8", x.lived(1), 1);
    }

    private static void mean() {
        BreadScribes x = Check.with("store 4;" + MEN, "give b 4; bake 1;");
        x.live(0);
        String ahead = Check.all(x);
        Check.fraction(x, "mean(5, 7)", x.mean(5, 7), 3, 4);
        Check.due("all behind mean", Check.all(x), ahead.replace("0/1 ", "3/4 "));
        BreadScribes y = Check.with("", "any;");
        Check.fraction(y, "mean without MEN", y.mean(0, 20), 0, 1);
        Check.fraction(x, "mean(9999, 1)", x.mean(9_999, 1), 3, 4);
        Check.fraction(x, "mean(9980, 20)", x.mean(9_980, 20), 3, 4);
        // By the seed 0 a MAN gets 24 (see draws), by 1 he gets another one, which the STORE has not.
        BreadScribes z = Check.with("store 24; odds 4; man a due 1 by 1; man b due 1 by 1;", "any;");
        Check.fraction(z, "mean(0, 1)", z.mean(0, 1), 1, 24);
        Check.fraction(z, "mean(0, 2)", z.mean(0, 2), 1, 48);
        Check.fraction(z, "mean(1, 1)", z.mean(1, 1), 0, 1);
        Check.fine(z, "store(24)", z.store(24), 1);
        Check.fine(z, "man(0, 2)", z.man(0, 2), 0);
    }

    private static void meanStatuses() {
        BreadScribes x = new BreadScribes();
        Check.refused(x, "mean(0, 0)", x.mean(0, 0), 5);
        Check.refused(x, "mean(0, 21)", x.mean(0, 21), 5);
        Check.refused(x, "mean(-1, 1)", x.mean(-1, 1), 5);
        Check.refused(x, "mean(10000, 1)", x.mean(10_000, 1), 5);
        Check.refused(x, "mean(9999, 2)", x.mean(9_999, 2), 5);
        Check.refused(x, "mean(9981, 20)", x.mean(9_981, 20), 5);
        Check.refused(x, "mean(max, max)", x.mean(Integer.MAX_VALUE, Integer.MAX_VALUE), 5);
        Check.refused(x, "mean(0, min)", x.mean(0, Integer.MIN_VALUE), 5);
        Check.refused(x, "mean(0, 1) without DAYS", x.mean(0, 1), 8);
        Check.days(x, "");
        Check.fraction(x, "mean(0, 20) of no STEPS", x.mean(0, 20), 0, 1);
    }

    private static void atRandom(Random random) {
        DaysModel model = DaysModel.atRandom(random);
        BreadScribes x = Check.with(model.bakeryText(), model.daysText());
        int seed = random.nextInt(10_000);
        int many = Math.min(1 + random.nextInt(20), 10_000 - seed);
        long all = 0;
        for (int i = 0; i < many; i++) {
            DaysModel trial = model.copy();
            trial.live(seed + i);
            all += trial.holdings();
        }
        BigInteger bottom = BigInteger.valueOf(DaysModel.LOAF * many);
        long divisor = bottom.gcd(BigInteger.valueOf(all)).longValue();
        Check.fraction(x, "mean of " + model.daysText(), x.mean(seed, many), all / divisor,
                DaysModel.LOAF * many / divisor);
        for (int day = 0; day < 2; day++) {
            model.live(seed);
            String call = "live(" + seed + ") of " + model.bakeryText() + " " + model.daysText();
            Check.fine(x, call, x.live(seed), model.steps);
            List<Integer> told = new ArrayList<>();
            for (int what = 0; what <= 4; what++) {
                told.add(x.lived(what));
            }
            Check.due("lived behind " + call, told.toString(), model.lived());
            Check.due("all behind " + call, inShort(x), model.inShort());
        }
    }

    private static String inShort(BreadScribes x) {
        StringBuilder all = new StringBuilder();
        for (int slice = 1; slice <= 30; slice++) {
            all.append(x.store(slice)).append(' ');
        }
        for (int man = 0; man < x.many(0); man++) {
            all.append(x.man(man, 2)).append(' ');
        }
        return all.append(x.many(5)).toString();
    }
}
