/** Promises 13 to 28: what is told of the BAKERY, what is done. */
public final class DeedsTest {
    private static final String MEN = "man a due 3 by 4 has 2; man b due 2 by 5; man c due 7 by 8 has 2 4;";

    private DeedsTest() {
    }

    public static void main(String[] args) {
        many();
        store();
        man();
        hasAndLacks();
        worth();
        copyStore();
        bake();
        cut();
        cutTooMany();
        cutsOfAll();
        split();
        splitTooMany();
        splitsOfAll();
        give();
        take();
        owe();
        come();
        learn();
        rule();
        Check.end("DeedsTest");
    }

    private static void many() {
        BreadScribes x = Check.with("odds 8; store 1 times 2; store 2; store 3 times 3; store 30;" + MEN + "known 2 30;");
        long[] want = {3, 7, 4, 8, Check.set(2, 30), 0, 0};
        for (int what = 0; what < want.length; what++) {
            Check.fine(x, "many(" + what + ")", x.many(what), want[what]);
        }
        Check.refused(x, "many(7)", x.many(7), 5);
        Check.refused(x, "many(-1)", x.many(-1), 5);
        x.owe(0, 1, 2);
        x.owe(2, 3, 4);
        Check.fine(x, "many(6)", x.many(6), 5);
        x.take(0, 2);
        Check.fine(x, "many(6)", x.many(6), 4);
        x.split(1, 2);
        x.cut(3, 4, 12);
        Check.fine(x, "many(5)", x.many(5), 2);
        x.cut(3, 4, 11);
        x.split(12, 3);
        Check.fine(x, "many(5) behind what can't be", x.many(5), 2);
    }

    private static void store() {
        BreadScribes x = Check.with("store 1; store 30 times 99; store 15 times 15;");
        for (int slice = 1; slice <= 30; slice++) {
            int want = slice == 1 ? 1 : slice == 30 ? 99 : slice == 15 ? 15 : 0;
            Check.fine(x, "store(" + slice + ")", x.store(slice), want);
        }
        Check.refused(x, "store(0)", x.store(0), 2);
        Check.refused(x, "store(31)", x.store(31), 2);
        Check.refused(x, "store(-1)", x.store(-1), 2);
        Check.refused(x, "store(min)", x.store(Integer.MIN_VALUE), 2);
    }

    private static void man() {
        BreadScribes x = Check.with("man a due 6 by 8 has 30 1;" + "man b due 99 by 30;");
        Check.fine(x, "man(0, 0)", x.man(0, 0), 6);
        Check.fine(x, "man(0, 1)", x.man(0, 1), 8);
        Check.fine(x, "man(0, 2)", x.man(0, 2), Check.set(1, 30));
        Check.fine(x, "man(1, 0)", x.man(1, 0), 99);
        Check.fine(x, "man(1, 1)", x.man(1, 1), 30);
        Check.fine(x, "man(1, 2)", x.man(1, 2), 0);
        Check.refused(x, "man(2, 0)", x.man(2, 0), 2);
        Check.refused(x, "man(-1, 3)", x.man(-1, 3), 2);
        Check.refused(x, "man(0, 3)", x.man(0, 3), 5);
        Check.refused(x, "man(0, -1)", x.man(0, -1), 5);
    }

    private static void hasAndLacks() {
        BreadScribes x = Check.with(MEN + "man d due 99 by 29; man e due 1 by 30 has 1 29 30;");
        Check.fraction(x, "has(0)", x.has(0), 1, 2);
        Check.fraction(x, "has(1)", x.has(1), 0, 1);
        Check.fraction(x, "has(2)", x.has(2), 3, 4);
        Check.fraction(x, "has(4)", x.has(4), 929, 870);
        Check.fraction(x, "lacks(0)", x.lacks(0), 1, 4);
        Check.fraction(x, "lacks(1)", x.lacks(1), 2, 5);
        Check.fraction(x, "lacks(2)", x.lacks(2), 1, 8);
        Check.fraction(x, "lacks(3)", x.lacks(3), 99, 29);
        Check.fraction(x, "lacks(4)", x.lacks(4), -30, 29);
        Check.refused(x, "has(5)", x.has(5), 2);
        Check.refused(x, "has(-1)", x.has(-1), 2);
        Check.refused(x, "lacks(5)", x.lacks(5), 2);
        Check.refused(x, "lacks(-1)", x.lacks(-1), 2);
        x.owe(0, 1, 2);
        Check.fraction(x, "lacks(0), even", x.lacks(0), 0, 1);
        BreadScribes y = Check.with("man a due 1 by 1 has 1 2 3 4 5 6 7 8 9 10 11 12 13 14 15 16 17 18 19 20 21 22 "
                + "23 24 25 26 27 28 29 30;");
        Check.fraction(y, "has(0), all", y.has(0), 9304682830147L, 2329089562800L);
        Check.fraction(y, "lacks(0), all", y.lacks(0), -6975593267347L, 2329089562800L);
    }

    private static void worth() {
        BreadScribes x = Check.with("store 1 times 2; store 2; store 3 times 3; store 12;");
        Check.fraction(x, "worth()", x.worth(), 43, 12);
        BreadScribes y = new BreadScribes();
        Check.fraction(y, "worth() of nothing", y.worth(), 0, 1);
        StringBuilder all = new StringBuilder();
        for (int slice = 1; slice <= 30; slice++) {
            all.append("store ").append(slice).append(" times 99;");
        }
        BreadScribes z = Check.with(all.toString());
        Check.fraction(z, "worth() of all", z.worth(), 9304682830147L, 23526157200L);
        Check.fine(z, "many(1)", z.many(1), 2970);
        Check.fine(z, "many(2)", z.many(2), 30);
    }

    private static void copyStore() {
        BreadScribes x = Check.with("store 1 times 99; store 3 times 3; store 30 times 30;");
        x.tray(0, 0, 40);
        x.tray(1, 3, 5);
        for (int i = 0; i < 40; i++) {
            x.write(0, i, -7);
        }
        Check.fine(x, "copyStore(0, 3)", x.copyStore(0, 3), 3);
        long[] want = {99, 0, 3, -7};
        for (int i = 0; i < want.length; i++) {
            Check.fine(x, "read(0, " + i + ")", x.read(0, i), want[i]);
        }
        Check.fine(x, "copyStore(0, 30)", x.copyStore(0, 30), 30);
        Check.fine(x, "read(0, 29)", x.read(0, 29), 30);
        Check.fine(x, "read(0, 30)", x.read(0, 30), -7);
        Check.fine(x, "copyStore(1, 5)", x.copyStore(1, 5), 5);
        Check.fine(x, "copyStore(1, 0)", x.copyStore(1, 0), 0);
        Check.refused(x, "copyStore(-1, 99)", x.copyStore(-1, 99), 1);
        Check.refused(x, "copyStore(4, 0)", x.copyStore(4, 0), 1);
        Check.refused(x, "copyStore(2, 99)", x.copyStore(2, 99), 3);
        Check.refused(x, "copyStore(2, -1)", x.copyStore(2, -1), 3);
        Check.refused(x, "copyStore(1, 6)", x.copyStore(1, 6), 4);
        Check.refused(x, "copyStore(1, 31)", x.copyStore(1, 31), 4);
        Check.refused(x, "copyStore(0, 41)", x.copyStore(0, 41), 4);
        Check.refused(x, "copyStore(0, 31)", x.copyStore(0, 31), 5);
        Check.refused(x, "copyStore(0, 40)", x.copyStore(0, 40), 5);
        Check.refused(x, "copyStore(0, -1)", x.copyStore(0, -1), 5);
        Check.refused(x, "copyStore(0, max)", x.copyStore(0, Integer.MAX_VALUE), 4);
    }

    private static void bake() {
        BreadScribes x = Check.with("store 1 times 2;");
        Check.fine(x, "bake(1)", x.bake(1), 3);
        Check.fine(x, "bake(95)", x.bake(95), 98);
        Check.refused(x, "bake(2)", x.bake(2), 7);
        Check.refused(x, "bake(99)", x.bake(99), 7);
        Check.refused(x, "bake(0)", x.bake(0), 5);
        Check.refused(x, "bake(-1)", x.bake(-1), 5);
        Check.refused(x, "bake(100)", x.bake(100), 5);
        Check.refused(x, "bake(max)", x.bake(Integer.MAX_VALUE), 5);
        Check.fine(x, "bake(1)", x.bake(1), 99);
        Check.fine(x, "many(5)", x.many(5), 0);
        BreadScribes y = new BreadScribes();
        Check.fine(y, "bake(99)", y.bake(99), 99);
        Check.refused(y, "bake(1)", y.bake(1), 7);
        Check.fine(y, "store(1)", y.store(1), 99);
    }

    private static void cut() {
        BreadScribes x = Check.with("store 1; store 3; store 6 times 2;");
        Check.fine(x, "cut(3, 12, 4)", x.cut(3, 12, 4), 5);
        Check.fine(x, "store(3)", x.store(3), 0);
        Check.fine(x, "store(4)", x.store(4), 1);
        Check.fine(x, "store(12)", x.store(12), 1);
        Check.fine(x, "cut(1, 2, 2)", x.cut(1, 2, 2), 6);
        Check.fine(x, "store(2)", x.store(2), 2);
        Check.fine(x, "cut(2, 3, 6)", x.cut(2, 3, 6), 7);
        Check.fine(x, "store(6)", x.store(6), 3);
        Check.fine(x, "many(5)", x.many(5), 3);
        String ahead = Check.all(x);
        Check.refused(x, "cut(0, 2, 2)", x.cut(0, 2, 2), 2);
        Check.refused(x, "cut(31, 2, 2)", x.cut(31, 2, 2), 2);
        Check.refused(x, "cut(2, 0, 2)", x.cut(2, 0, 2), 2);
        Check.refused(x, "cut(2, 31, 2)", x.cut(2, 31, 2), 2);
        Check.refused(x, "cut(2, 3, 0)", x.cut(2, 3, 0), 2);
        Check.refused(x, "cut(2, 3, 31)", x.cut(2, 3, 31), 2);
        Check.refused(x, "cut(5, 10, 10), none there", x.cut(5, 10, 10), 9);
        Check.refused(x, "cut(2, 3, 5), not so", x.cut(2, 3, 5), 9);
        Check.refused(x, "cut(2, 2, 2), not so", x.cut(2, 2, 2), 9);
        Check.refused(x, "cut(2, 1, 30), not so", x.cut(2, 1, 30), 9);
        Check.due("all behind cuts that can't be", Check.all(x), ahead);
    }

    private static void cutTooMany() {
        BreadScribes x = Check.with("store 2 times 99; store 3 times 99; store 4 times 98; store 6 times 99; store 12 times 97;"
                + "store 30 times 99;");
        Check.refused(x, "cut(2, 3, 6)", x.cut(2, 3, 6), 7);
        Check.refused(x, "cut(2, 4, 4)", x.cut(2, 4, 4), 7);
        Check.refused(x, "cut(5, 3, 7), none there", x.cut(5, 3, 7), 7);
        Check.refused(x, "cut(5, 7, 3), not so", x.cut(5, 7, 3), 7);
        Check.refused(x, "cut(1, 2, 2), none there", x.cut(1, 2, 2), 7);
        Check.refused(x, "cut(5, 4, 4), not so", x.cut(5, 4, 4), 7);
        Check.refused(x, "cut(2, 2, 2), one more as if done", x.cut(2, 2, 2), 7);
        Check.refused(x, "cut(2, 2, 5), as many as if done", x.cut(2, 2, 5), 9);
        Check.refused(x, "cut(2, 5, 2), as many as if done", x.cut(2, 5, 2), 9);
        Check.refused(x, "cut(5, 12, 12)", x.cut(5, 12, 12), 9);
        Check.refused(x, "cut(5, 4, 12)", x.cut(5, 4, 12), 9);
        Check.refused(x, "cut(31, 2, 2)", x.cut(31, 2, 2), 2);
        Check.fine(x, "cut(3, 4, 12)", x.cut(3, 4, 12), 592);
        Check.refused(x, "cut(3, 4, 12) once more", x.cut(3, 4, 12), 7);
        Check.refused(x, "cut(6, 12, 12)", x.cut(6, 12, 12), 7);
        Check.fine(x, "many(5)", x.many(5), 1);
    }

    private static void cutsOfAll() {
        for (int slice = 1; slice <= 30; slice++) {
            for (int a = 1; a <= 30; a++) {
                BreadScribes x = Check.with("store " + slice + ";");
                int made = 0;
                for (int b = 1; b <= 30; b++) {
                    boolean isSo = slice * b + slice * a == a * b;
                    if (!isSo) {
                        Check.refused(x, "cut(" + slice + ", " + a + ", " + b + ")", x.cut(slice, a, b), 9);
                    } else if (made == 0) {
                        Check.fine(x, "cut(" + slice + ", " + a + ", " + b + ")", x.cut(slice, a, b), 2);
                        made++;
                    }
                }
            }
        }
    }

    private static void split() {
        BreadScribes x = Check.with("store 1 times 2; store 15; store 16;");
        Check.fine(x, "split(1, 2)", x.split(1, 2), 5);
        Check.fine(x, "store(1)", x.store(1), 1);
        Check.fine(x, "store(2)", x.store(2), 2);
        Check.fine(x, "split(1, 30)", x.split(1, 30), 34);
        Check.fine(x, "store(30)", x.store(30), 30);
        Check.fine(x, "split(15, 2)", x.split(15, 2), 35);
        Check.fine(x, "store(30)", x.store(30), 32);
        Check.fine(x, "many(5)", x.many(5), 3);
        String ahead = Check.all(x);
        Check.refused(x, "split(0, 1)", x.split(0, 1), 2);
        Check.refused(x, "split(31, 2)", x.split(31, 2), 2);
        Check.refused(x, "split(2, 1)", x.split(2, 1), 5);
        Check.refused(x, "split(2, 0)", x.split(2, 0), 5);
        Check.refused(x, "split(2, 31)", x.split(2, 31), 5);
        Check.refused(x, "split(2, min)", x.split(2, Integer.MIN_VALUE), 5);
        Check.refused(x, "split(2, max)", x.split(2, Integer.MAX_VALUE), 5);
        Check.refused(x, "split(1, 2), none there", x.split(1, 2), 9);
        Check.refused(x, "split(16, 2), beyond 30", x.split(16, 2), 9);
        Check.refused(x, "split(30, 30), beyond 30", x.split(30, 30), 9);
        Check.due("all behind splits that can't be", Check.all(x), ahead);
    }

    private static void splitTooMany() {
        BreadScribes x = Check.with("store 2 times 98; store 1; store 4 times 97; store 6 times 96; store 3 times 99; store 9 times 97;");
        Check.refused(x, "split(1, 2)", x.split(1, 2), 7);
        Check.fine(x, "split(2, 2)", x.split(2, 2), 489);
        Check.fine(x, "store(4)", x.store(4), 99);
        Check.refused(x, "split(2, 2) once more", x.split(2, 2), 7);
        Check.refused(x, "split(5, 2), none there", x.split(5, 2), 9);
        Check.refused(x, "split(1, 3)", x.split(1, 3), 7);
        Check.fine(x, "split(2, 3)", x.split(2, 3), 491);
        Check.refused(x, "split(3, 3)", x.split(3, 3), 7);
        Check.fine(x, "store(9)", x.store(9), 97);
        Check.fine(x, "split(1, 2)", x.split(1, 2), 492);
        Check.refused(x, "split(1, 2), none there, too many", x.split(1, 2), 7);
        Check.refused(x, "split(1, 4), none there, too many", x.split(1, 4), 7);
    }

    private static void splitsOfAll() {
        for (int slice = 1; slice <= 30; slice++) {
            for (int by = 2; by <= 30; by++) {
                BreadScribes x = Check.with("store " + slice + ";");
                if (slice * by > 30) {
                    Check.refused(x, "split(" + slice + ", " + by + ")", x.split(slice, by), 9);
                } else {
                    Check.fine(x, "split(" + slice + ", " + by + ")", x.split(slice, by), by);
                    Check.fine(x, "store(" + slice * by + ")", x.store(slice * by), by);
                }
            }
        }
    }

    private static void give() {
        BreadScribes x = Check.with("store 4 times 2; store 30; store 2;" + MEN);
        Check.fine(x, "give(0, 4)", x.give(0, 4), 2);
        Check.fine(x, "store(4)", x.store(4), 1);
        Check.fine(x, "man(0, 2)", x.man(0, 2), Check.set(2, 4));
        Check.fine(x, "give(1, 30)", x.give(1, 30), 1);
        Check.fine(x, "man(1, 2)", x.man(1, 2), Check.set(30));
        Check.refused(x, "give(2, 2), he has one", x.give(2, 2), 9);
        Check.refused(x, "give(2, 30), none there", x.give(2, 30), 9);
        Check.refused(x, "give(3, 4)", x.give(3, 4), 2);
        Check.refused(x, "give(-1, 4)", x.give(-1, 4), 2);
        Check.refused(x, "give(0, 0)", x.give(0, 0), 2);
        Check.refused(x, "give(0, 31)", x.give(0, 31), 2);
        Check.fine(x, "give(1, 4), beyond what is due", x.give(1, 4), 2);
        Check.fine(x, "give(1, 2)", x.give(1, 2), 3);
        Check.fraction(x, "lacks(1)", x.lacks(1), -23, 60);
    }

    private static void take() {
        BreadScribes x = Check.with("store 2 times 98; store 7 times 99;" + MEN + "man d due 1 by 1 has 30;");
        Check.fine(x, "take(0, 2)", x.take(0, 2), 0);
        Check.fine(x, "store(2)", x.store(2), 99);
        Check.fine(x, "man(0, 2)", x.man(0, 2), 0);
        Check.refused(x, "take(2, 2), the STORE is full", x.take(2, 2), 7);
        Check.refused(x, "take(0, 2), full and he has none", x.take(0, 2), 7);
        Check.refused(x, "take(1, 7), full and he has none", x.take(1, 7), 7);
        Check.refused(x, "take(0, 4), he has none", x.take(0, 4), 9);
        Check.fine(x, "take(2, 4)", x.take(2, 4), 1);
        Check.fine(x, "take(3, 30)", x.take(3, 30), 0);
        Check.fine(x, "store(30)", x.store(30), 1);
        Check.refused(x, "take(4, 2)", x.take(4, 2), 2);
        Check.refused(x, "take(-1, 2)", x.take(-1, 2), 2);
        Check.refused(x, "take(0, 0)", x.take(0, 0), 2);
        Check.refused(x, "take(0, 31)", x.take(0, 31), 2);
    }

    private static void owe() {
        BreadScribes x = Check.with(MEN);
        Check.fine(x, "owe(1, 99, 30)", x.owe(1, 99, 30));
        Check.fine(x, "man(1, 0)", x.man(1, 0), 99);
        Check.fine(x, "man(1, 1)", x.man(1, 1), 30);
        Check.fine(x, "owe(1, 1, 1)", x.owe(1, 1, 1));
        Check.fine(x, "man(1, 0)", x.man(1, 0), 1);
        Check.fine(x, "man(0, 0)", x.man(0, 0), 3);
        Check.refused(x, "owe(3, 0, 1)", x.owe(3, 0, 1), 2);
        Check.refused(x, "owe(-1, 1, 1)", x.owe(-1, 1, 1), 2);
        Check.refused(x, "owe(1, 0, 1)", x.owe(1, 0, 1), 5);
        Check.refused(x, "owe(1, 100, 1)", x.owe(1, 100, 1), 5);
        Check.refused(x, "owe(1, 2, 0)", x.owe(1, 2, 0), 5);
        Check.refused(x, "owe(1, 2, 31)", x.owe(1, 2, 31), 5);
        Check.refused(x, "owe(1, -1, -1)", x.owe(1, -1, -1), 5);
        Check.fine(x, "man(1, 0)", x.man(1, 0), 1);
        Check.fine(x, "man(1, 1)", x.man(1, 1), 1);
    }

    private static void come() {
        BreadScribes x = Check.with(MEN);
        Check.fine(x, "come(6, 8)", x.come(6, 8), 3);
        Check.fine(x, "man(3, 0)", x.man(3, 0), 6);
        Check.fine(x, "man(3, 1)", x.man(3, 1), 8);
        Check.fine(x, "man(3, 2)", x.man(3, 2), 0);
        Check.refused(x, "come(0, 1)", x.come(0, 1), 5);
        Check.refused(x, "come(100, 1)", x.come(100, 1), 5);
        Check.refused(x, "come(1, 0)", x.come(1, 0), 5);
        Check.refused(x, "come(1, 31)", x.come(1, 31), 5);
        Check.fine(x, "come(99, 30)", x.come(99, 30), 4);
        Check.fine(x, "come(1, 1)", x.come(1, 1), 5);
        Check.refused(x, "come(1, 1), a seventh", x.come(1, 1), 7);
        Check.refused(x, "come(1, 0), a seventh", x.come(1, 0), 5);
        Check.fine(x, "many(0)", x.many(0), 6);
        // One who HAD something is gone with his BAKERY: who comes in his place HAS nothing.
        BreadScribes y = Check.with("man a due 1 by 1 has 3;");
        Check.bakery(y, "");
        Check.fine(y, "come(1, 2)", y.come(1, 2), 0);
        Check.fine(y, "man(0, 2)", y.man(0, 2), 0);
        y.bake(1);
        Check.fine(y, "give(0, 1)", y.give(0, 1), 1);
    }

    private static void learn() {
        BreadScribes x = Check.with("known 2 3;");
        Check.fine(x, "learn(30, true)", x.learn(30, true));
        Check.fine(x, "learn(1, true)", x.learn(1, true));
        Check.fine(x, "learn(2, false)", x.learn(2, false));
        Check.fine(x, "many(4)", x.many(4), Check.set(1, 3, 30));
        Check.refused(x, "learn(2, false)", x.learn(2, false), 9);
        Check.refused(x, "learn(3, true)", x.learn(3, true), 9);
        Check.refused(x, "learn(0, true)", x.learn(0, true), 2);
        Check.refused(x, "learn(31, false)", x.learn(31, false), 2);
        Check.fine(x, "many(4)", x.many(4), Check.set(1, 3, 30));
    }

    private static void rule() {
        BreadScribes x = Check.with("odds 5;");
        Check.refused(x, "rule(17)", x.rule(17), 5);
        Check.refused(x, "rule(-1)", x.rule(-1), 5);
        Check.fine(x, "many(3)", x.many(3), 5);
        Check.fine(x, "rule(16)", x.rule(16));
        Check.fine(x, "many(3)", x.many(3), 16);
        Check.fine(x, "rule(0)", x.rule(0));
        Check.fine(x, "many(3)", x.many(3), 0);
    }
}
