/** Promises 49, 50: MARKS. */
public final class MarksTest {
    private MarksTest() {
    }

    public static void main(String[] args) {
        numbers();
        all();
        daysToo();
        oneInAnother();
        whatIsNotTakenBack();
        bakeryBetween();
        Check.end("MarksTest");
    }

    private static void numbers() {
        BreadScribes x = new BreadScribes();
        Check.refused(x, "back() without", x.back(), 8);
        for (int i = 1; i <= 3; i++) {
            Check.fine(x, "mark()", x.mark(), i);
        }
        Check.refused(x, "a fourth mark()", x.mark(), 7);
        for (int i = 2; i >= 0; i--) {
            Check.fine(x, "back()", x.back(), i);
        }
        Check.refused(x, "back() without", x.back(), 8);
        Check.fine(x, "mark()", x.mark(), 1);
    }

    private static void all() {
        BreadScribes x = Check.with("odds 8; store 1 times 9; store 2 times 9; store 30; man a due 3 by 4 has 2 30; man b due 2 by 5;"
                + "known 2 3;", "any;");
        x.split(1, 2);
        x.worth();
        String ahead = Check.all(x);
        x.mark();
        x.bake(3);
        x.cut(2, 3, 6);
        x.give(1, 30);
        x.take(0, 30);
        x.owe(0, 9, 9);
        x.owe(1, 8, 8);
        x.come(7, 7);
        x.come(7, 8);
        x.learn(2, false);
        x.rule(1);
        Check.due("all is other", Check.all(x).equals(ahead), false);
        Check.fine(x, "back()", x.back(), 0);
        Check.due("all behind back()", Check.all(x), ahead);
        Check.fraction(x, "lacks(0)", x.lacks(0), 13, 60);
        Check.fine(x, "come(1, 2)", x.come(1, 2), 2);
        Check.fine(x, "man(2, 2)", x.man(2, 2), 0);
        Check.fine(x, "give(2, 30)", x.give(2, 30), 1);
    }

    private static void daysToo() {
        BreadScribes x = Check.with("man a due 1 by 1;", "bake 2; give a 1; loop 2; bake 1; end;");
        x.mark();
        Check.days(x, "stop;");
        Check.fine(x, "live(0) of the new ones", x.live(0), 1);
        x.back();
        Check.fine(x, "live(0) of those at the MARK", x.live(0), 5);
        Check.fine(x, "man(0, 2)", x.man(0, 2), 1);
        Check.fine(x, "store(1)", x.store(1), 3);
        BreadScribes z = Check.with("store 2; man a due 1 by 1;", "cut 2 3 6; when lacks a > 0; when holds 3 = 1; bake 1; end; end;");
        z.mark();
        Check.days(z, "split 2 3; when holds 6 < 9; bake 9; loop 2; bake 5; end; end;");
        z.back();
        Check.fine(z, "live(0) of those at the MARK", z.live(0), 4);
        Check.fine(z, "lived(0)", z.lived(0), 0);
        BreadScribes y = new BreadScribes();
        y.mark();
        Check.days(y, "stop;");
        y.back();
        Check.refused(y, "live(0), none at the MARK", y.live(0), 8);
        Check.days(y, "stop;");
        y.mark();
        y.live(0);
        y.back();
        Check.fine(y, "live(0) behind live(0)", y.live(0), 1);
    }

    private static void oneInAnother() {
        BreadScribes x = Check.with("store 1;");
        x.mark();
        x.bake(1);
        x.mark();
        x.bake(1);
        x.mark();
        x.bake(1);
        x.back();
        Check.fine(x, "store(1)", x.store(1), 3);
        x.bake(9);
        x.mark();
        x.bake(1);
        x.back();
        Check.fine(x, "store(1)", x.store(1), 12);
        x.back();
        Check.fine(x, "store(1)", x.store(1), 2);
        x.back();
        Check.fine(x, "store(1)", x.store(1), 1);
    }

    private static void whatIsNotTakenBack() {
        BreadScribes x = Check.with("store 2;", "split 2 2;");
        x.tray(0, 0, 1);
        Check.fraction(x, "worth()", x.worth(), 1, 2);
        x.mark();
        x.live(0);
        x.write(0, 0, 5);
        x.bake(1);
        x.worth();
        x.feed(0, 0, 0, 0, 0);
        x.back();
        Check.due("top()", x.top(), 3);
        Check.due("bottom()", x.bottom(), 2);
        Check.fine(x, "read(0, 0)", x.read(0, 0), 5);
        Check.fine(x, "lived(1)", x.lived(1), 1);
        Check.fine(x, "many(5)", x.many(5), 0);
        Check.due("feed", x.feed(0, 0, 0, 0, 0), 40);
    }

    private static void bakeryBetween() {
        BreadScribes x = Check.with("odds 1; store 5; man a due 1 by 2;", "give a 5;");
        x.mark();
        Check.bakery(x, "odds 2; store 6; man b due 1 by 3; man c due 1 by 3;");
        Check.days(x, "give c 6;");
        x.mark();
        Check.bakery(x, "");
        Check.fine(x, "back()", x.back(), 1);
        Check.fine(x, "many(0)", x.many(0), 2);
        Check.fine(x, "live(0)", x.live(0), 1);
        Check.fine(x, "man(1, 2)", x.man(1, 2), Check.set(6));
        Check.fine(x, "back()", x.back(), 0);
        Check.fine(x, "many(0)", x.many(0), 1);
        Check.fine(x, "many(3)", x.many(3), 1);
        Check.fine(x, "live(0)", x.live(0), 1);
        Check.fine(x, "man(0, 2)", x.man(0, 2), Check.set(5));
        // NAMES are taken back, too.
        Check.fine(x, "days", Check.days(x, "take a 5;"), 1);
        Check.faulty(x, false, 3, "take ^b 5;");
        x.mark();
        Check.bakery(x, "man b due 1 by 3;");
        Check.bakery(x, "man c due 1 by 3;");
        Check.fine(x, "back()", x.back(), 0);
        Check.fine(x, "days", Check.days(x, "give a 5;"), 1);
        Check.faulty(x, false, 3, "take ^c 5;");
    }
}
