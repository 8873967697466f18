import java.util.List;
import java.util.function.Consumer;
import java.util.function.Predicate;
import java.util.function.ToLongFunction;

/**
 * Promise by promise: each edge from both sides, each STATUS that is named alone and where several hold. Of each call
 * there are two objects made alike; what is refused is called on one of them, and then both tell the same of all.
 */
public final class EdgesTest {
    private static final String BAKERY = "odds 8; store 1 times 98; store 2 times 99; store 3 times 2; store 4 times 98;"
            + "store 12; store 29; store 30 times 99; man a due 3 by 4 has 2 30; man b due 2 by 5; man c due 7 by 8 has 2 4;"
            + "known 2 3 4 5 6 8 10 12 15 20;";
    private static final String DAYS = "any; bake 1; give b 3; loop 2; any; end; cut 3 4 12;";
    private static final String LEFT_ON_TAPE = "give a 3; take c 4; ";
    private static final int TWELVE = (1 << 12) - 1;
    private static final int THIRTEEN = (1 << 13) - 1;
    private static final int MIN = Integer.MIN_VALUE;
    private static final int MAX = Integer.MAX_VALUE;

    private static Consumer<BreadScribes> setup = x -> { };

    private EdgesTest() {
    }

    public static void main(String[] args) {
        tray();
        writeAndRead();
        pour();
        texts();
        textsWithFaults();
        told();
        copyStore();
        bakeAndCut();
        split();
        giveAndTake();
        oweAndCome();
        learnAndRule();
        fewestAndKindest();
        waysAndOdds();
        greedy();
        slips();
        reach();
        fill();
        plate();
        luckAndBurnt();
        live();
        lived();
        mean();
        marks();
        allFull();
        allEmpty();
        Check.end("EdgesTest");
    }

    /** An object of which all that can be there is there; what a test needs beside is done last. */
    private static BreadScribes rich() {
        BreadScribes x = new BreadScribes();
        Check.bakery(x, BAKERY);
        x.mark();
        Check.days(x, DAYS);
        x.tray(0, 0, 5);
        x.tray(1, 3, 12);
        x.tray(2, 0, 4);
        int[] numbers = {2, 5, 30, 31, 0};
        for (int i = 0; i < numbers.length; i++) {
            x.write(0, i, numbers[i]);
            x.write(1, i, numbers[i]);
        }
        Check.feed(x, LEFT_ON_TAPE);
        x.worth();
        setup.accept(x);
        return x;
    }

    /** Such a BAKERY in place of the rich one; the tape is empty. */
    private static void bakeryAlone(BreadScribes x, String text) {
        x.bakery(0);
        Check.bakery(x, text);
        Check.due("STATUS of " + text, x.status(), 0);
    }

    private static void given(Consumer<BreadScribes> more) {
        setup = more;
    }

    private static void yes(long want, String call, ToLongFunction<BreadScribes> made) {
        BreadScribes x = rich();
        Check.fine(x, call, made.applyAsLong(x), want);
    }

    private static void holds(String call, Predicate<BreadScribes> made) {
        BreadScribes x = rich();
        Check.fine(x, call, made.test(x));
    }

    /** The call gives a number, so what is refused gives NONE. */
    private static void no(int status, String call, ToLongFunction<BreadScribes> made) {
        BreadScribes x = rich();
        Check.refused(x, call, made.applyAsLong(x), status);
        Check.due("all behind " + call, allBehind(x), allBehind(rich()));
    }

    private static void never(int status, String call, Predicate<BreadScribes> made) {
        BreadScribes x = rich();
        Check.refused(x, call, made.test(x), status);
        Check.due("all behind " + call, allBehind(x), allBehind(rich()));
    }

    /** All that an object tells; DAYS, NAMES, the tape and MARKS are seen by what is done with them. */
    private static String allBehind(BreadScribes x) {
        StringBuilder all = new StringBuilder(Check.all(x));
        addTrays(all, x);
        for (int fed = 0; fed >= 0; ) {
            fed = x.feed(0x20202020, 0x20202020, 0x20202020, 0x20202020, 0x20202020);
            all.append(" fed ").append(fed);
        }
        all.append(" days ").append(x.days(20)).append(' ').append(x.fault(0)).append(' ').append(x.fault(1));
        addLife(all, x);
        addMarks(all, x);
        return all.toString();
    }

    private static void addMarks(StringBuilder all, BreadScribes x) {
        for (int marks = x.back(); marks >= 0; marks = x.back()) {
            all.append(" back ").append(marks).append(Check.all(x));
        }
    }

    private static void addLife(StringBuilder all, BreadScribes x) {
        all.append(" live ").append(x.live(3)).append(' ').append(Check.all(x));
    }

    private static void addTrays(StringBuilder all, BreadScribes x) {
        for (int tray = 0; tray < 4; tray++) {
            long number = x.read(tray, 0);
            for (int place = 1; place <= 12 && x.status() == 0; place++) {
                all.append(' ').append(number);
                number = x.read(tray, place);
            }
            all.append(" status ").append(x.status());
        }
    }

    private static void tray() {
        given(x -> { });
        holds("tray(0, 0, 0)", x -> x.tray(0, 0, 0));
        holds("tray(3, 3, 60)", x -> x.tray(3, 3, 60));
        never(1, "tray(-1, 0, 1)", x -> x.tray(-1, 0, 1));
        never(1, "tray(4, 0, 1)", x -> x.tray(4, 0, 1));
        never(1, "tray(0, -1, 1)", x -> x.tray(0, -1, 1));
        never(1, "tray(0, 4, 1)", x -> x.tray(0, 4, 1));
        never(5, "tray(0, 0, 61)", x -> x.tray(0, 0, 61));
        never(6, "tray(0, 0, -1)", x -> x.tray(0, 0, -1));
        never(1, "tray(4, 0, 61)", x -> x.tray(4, 0, 61));
        never(1, "tray(4, 0, -1)", x -> x.tray(4, 0, -1));
        never(1, "tray(0, 4, 61)", x -> x.tray(0, 4, 61));
        never(1, "tray(0, -1, -1)", x -> x.tray(0, -1, -1));
        never(5, "tray(3, 3, max)", x -> x.tray(3, 3, MAX));
        never(6, "tray(3, 3, min)", x -> x.tray(3, 3, MIN));
    }

    private static void writeAndRead() {
        given(x -> x.tray(2, 1, 0));
        holds("write(0, 0, 1)", x -> x.write(0, 0, 1));
        holds("write(0, 4, 1)", x -> x.write(0, 4, 1));
        never(1, "write(-1, 0, 1)", x -> x.write(-1, 0, 1));
        never(1, "write(4, 0, 1)", x -> x.write(4, 0, 1));
        never(3, "write(3, 0, 1)", x -> x.write(3, 0, 1));
        never(4, "write(0, -1, 1)", x -> x.write(0, -1, 1));
        never(4, "write(0, 5, 1)", x -> x.write(0, 5, 1));
        never(4, "write(0, min, 1)", x -> x.write(0, MIN, 1));
        never(4, "write(0, max, 1)", x -> x.write(0, MAX, 1));
        never(4, "write(2, 0, 1), an empty one", x -> x.write(2, 0, 1));
        never(1, "write(4, -1, 1)", x -> x.write(4, -1, 1));
        never(3, "write(3, -1, 1)", x -> x.write(3, -1, 1));
        yes(2, "read(0, 0)", x -> x.read(0, 0));
        yes(0, "read(0, 4)", x -> x.read(0, 4));
        no(1, "read(-1, 0)", x -> x.read(-1, 0));
        no(1, "read(4, 0)", x -> x.read(4, 0));
        no(3, "read(3, 0)", x -> x.read(3, 0));
        no(4, "read(0, -1)", x -> x.read(0, -1));
        no(4, "read(0, 5)", x -> x.read(0, 5));
        no(4, "read(2, 0), an empty one", x -> x.read(2, 0));
        no(1, "read(-1, 99)", x -> x.read(-1, 99));
        no(3, "read(3, 99)", x -> x.read(3, 99));
        // The least and greatest numbers of each sort, and one beyond.
        long[][] sides = {{0, 127, 127}, {0, 128, -128}, {0, -128, -128}, {0, -129, 127}, {0, -1, -1}, {0, 256, 0},
            {1, 32_767, 32_767}, {1, 32_768, -32_768}, {1, -32_768, -32_768}, {1, -32_769, 32_767}, {1, 65_536, 0},
            {2, MAX, MAX}, {2, MAX + 1L, MIN}, {2, MIN, MIN}, {2, MIN - 1L, MAX}, {2, 1L << 32, 0},
            {3, Long.MAX_VALUE, Long.MAX_VALUE}, {3, Long.MIN_VALUE, Long.MIN_VALUE}, {3, 1L << 32, 1L << 32}};
        for (long[] side : sides) {
            given(x -> x.tray(3, (int) side[0], 1));
            holds("write of " + side[1], x -> x.write(3, 0, side[1]));
            given(x -> {
                x.tray(3, (int) side[0], 1);
                x.write(3, 0, side[1]);
            });
            yes(side[2], "read of " + side[1] + " in sort " + side[0], x -> x.read(3, 0));
        }
    }

    private static void pour() {
        given(x -> { });
        holds("pour of all", x -> x.pour(0, 1, 2, 0, 4));
        holds("pour to itself", x -> x.pour(0, 0, 0, 1, 4));
        holds("pour of none at the ends", x -> x.pour(0, 5, 2, 4, 0));
        never(1, "pour from no TRAY", x -> x.pour(-1, 0, 0, 0, 1));
        never(1, "pour to no TRAY", x -> x.pour(0, 0, 4, 0, 1));
        never(3, "pour from a MISSING one", x -> x.pour(3, 0, 0, 0, 1));
        never(3, "pour to a MISSING one", x -> x.pour(0, 0, 3, 0, 1));
        never(3, "pour within a MISSING one", x -> x.pour(3, 0, 3, 0, 0));
        never(11, "pour to another sort", x -> x.pour(0, 0, 1, 0, 1));
        never(6, "pour of -1", x -> x.pour(0, 0, 2, 0, -1));
        never(4, "pour of one too many from", x -> x.pour(0, 2, 2, 0, 4));
        never(4, "pour of one too many to", x -> x.pour(0, 1, 2, 1, 4));
        never(4, "pour from -1", x -> x.pour(0, -1, 2, 0, 1));
        never(4, "pour to -1", x -> x.pour(0, 0, 2, -1, 1));
        never(4, "pour of none from -1", x -> x.pour(0, -1, 2, 0, 0));
        never(4, "pour of none behind the end", x -> x.pour(0, 6, 2, 0, 0));
        never(4, "pour of max", x -> x.pour(0, 1, 2, 1, MAX));
        never(1, "no TRAY and a MISSING one", x -> x.pour(3, 0, 4, 0, -1));
        never(1, "a MISSING one to none", x -> x.pour(4, 0, 3, 0, -1));
        never(3, "a MISSING one, -1 numbers, no place", x -> x.pour(3, -1, 1, -1, -1));
        never(3, "to a MISSING one, -1 numbers", x -> x.pour(1, 99, 3, 99, -1));
        never(11, "unlike, -1 numbers, no place", x -> x.pour(0, -1, 1, 99, -1));
        never(11, "unlike, no place", x -> x.pour(1, 99, 2, 0, 1));
        never(6, "-1 numbers, no place", x -> x.pour(0, -1, 2, 99, -1));
        never(6, "min numbers", x -> x.pour(0, 0, 2, 0, MIN));
    }

    private static void texts() {
        given(x -> { });
        yes(1, "days of what is there, and no more", x -> x.days(9));
        yes(2, "days(20)", x -> x.days(20));
        yes(0, "days(0)", x -> x.days(0));
        yes(0, "bakery(0)", x -> x.bakery(0));
        no(5, "days(21)", x -> x.days(21));
        no(5, "days(-1)", x -> x.days(-1));
        no(5, "days(min)", x -> x.days(MIN));
        no(5, "days(max)", x -> x.days(MAX));
        no(5, "bakery(21)", x -> x.bakery(21));
        no(5, "bakery(-1)", x -> x.bakery(-1));
        no(5, "bakery(min)", x -> x.bakery(MIN));
        no(5, "bakery(max)", x -> x.bakery(MAX));
        given(x -> Check.feed(x, " ".repeat(280)));
        yes(2, "days(300)", x -> x.days(300));
        no(5, "days(301) of 300", x -> x.days(301));
        given(x -> Check.feed(x, " ".repeat(300)));
        yes(2, "days(300) of 320", x -> x.days(300));
        no(5, "days(301) of 320", x -> x.days(301));
        given(x -> {
            x.bakery(0);
            Check.feed(x, "odds 5;" + " ".repeat(893));
        });
        yes(0, "bakery(900)", x -> x.bakery(900));
        no(5, "bakery(901)", x -> x.bakery(901));
        BreadScribes full = rich();
        Check.due("feed beyond 900", full.feed(1, 2, 3, 4, 5), BreadScribes.NONE);
        Check.due("all behind feed beyond 900", allBehind(full), allBehind(rich()));
        given(x -> {
            x.bakery(0);
            Check.feed(x, "odds 5;" + " ".repeat(873));
        });
        Check.due("feed up to 900", rich().feed(0x20202020, 0x20202020, 0x20202020, 0x20202020, 0x20202020), 900);
    }

    /** With 10 the tape is empty and the FAULT is told; all else is as it was. */
    private static void textsWithFaults() {
        given(x -> {
            Check.feed(x, "odds 9; store 7; man z due 1 by 1; known; !");
            x.mark();
            x.live(9);
        });
        Consumer<BreadScribes> taken = x -> x.bakery(20 + 43);
        Consumer<BreadScribes> alone = x -> x.days(20 + 43);
        for (Consumer<BreadScribes> call : List.of(taken, alone)) {
            BreadScribes x = rich();
            call.accept(x);
            Check.due("STATUS of a text with a FAULT", x.status(), 10);
            Check.due("its fault(0)", x.fault(0) > 0, true);
            BreadScribes y = rich();
            Check.due("feed behind a FAULT", x.feed(0, 0, 0, 0, 0), 20);
            Check.due("all behind a FAULT", allButTape(x), allButTape(y));
        }
    }

    private static String allButTape(BreadScribes x) {
        StringBuilder all = new StringBuilder(Check.all(x));
        addTrays(all, x);
        addLife(all, x);
        addMarks(all, x);
        return all.toString().replaceAll("fault -?\\d+ -?\\d+", "");
    }

    private static void told() {
        given(x -> { });
        yes(3, "many(0)", x -> x.many(0));
        yes(0, "many(6)", x -> x.many(6));
        no(5, "many(-1)", x -> x.many(-1));
        no(5, "many(7)", x -> x.many(7));
        yes(98, "store(1)", x -> x.store(1));
        yes(99, "store(30)", x -> x.store(30));
        no(2, "store(0)", x -> x.store(0));
        no(2, "store(31)", x -> x.store(31));
        yes(3, "man(0, 0)", x -> x.man(0, 0));
        yes(Check.set(2, 4), "man(2, 2)", x -> x.man(2, 2));
        no(2, "man(-1, 0)", x -> x.man(-1, 0));
        no(2, "man(3, 0)", x -> x.man(3, 0));
        no(5, "man(0, -1)", x -> x.man(0, -1));
        no(5, "man(0, 3)", x -> x.man(0, 3));
        no(2, "man(3, 3)", x -> x.man(3, 3));
        no(2, "man(-1, -1)", x -> x.man(-1, -1));
        holds("has(0)", x -> x.has(0));
        holds("has(2)", x -> x.has(2));
        never(2, "has(-1)", x -> x.has(-1));
        never(2, "has(3)", x -> x.has(3));
        holds("lacks(0)", x -> x.lacks(0));
        holds("lacks(2)", x -> x.lacks(2));
        never(2, "lacks(-1)", x -> x.lacks(-1));
        never(2, "lacks(3)", x -> x.lacks(3));
        given(x -> {
            x.come(1, 1);
            x.come(1, 1);
            x.come(1, 1);
        });
        yes(1, "man(5, 0)", x -> x.man(5, 0));
        holds("lacks(5)", x -> x.lacks(5));
        no(2, "man(6, 0)", x -> x.man(6, 0));
        never(2, "has(6)", x -> x.has(6));
        given(x -> x.bakery(0));
        no(2, "man(0, 0) without MEN", x -> x.man(0, 0));
        never(2, "has(0) without MEN", x -> x.has(0));
        never(2, "lacks(0) without MEN", x -> x.lacks(0));
    }

    private static void copyStore() {
        given(x -> { });
        yes(0, "copyStore(0, 0)", x -> x.copyStore(0, 0));
        yes(5, "copyStore(0, 5)", x -> x.copyStore(0, 5));
        no(1, "copyStore(-1, 1)", x -> x.copyStore(-1, 1));
        no(1, "copyStore(4, 1)", x -> x.copyStore(4, 1));
        no(3, "copyStore(3, 1)", x -> x.copyStore(3, 1));
        no(4, "copyStore(0, 6)", x -> x.copyStore(0, 6));
        no(5, "copyStore(0, -1)", x -> x.copyStore(0, -1));
        no(1, "copyStore(4, -1)", x -> x.copyStore(4, -1));
        no(3, "copyStore(3, 31)", x -> x.copyStore(3, 31));
        no(4, "copyStore(0, 31)", x -> x.copyStore(0, 31));
        given(x -> x.tray(3, 0, 31));
        yes(30, "copyStore(3, 30)", x -> x.copyStore(3, 30));
        no(5, "copyStore(3, 31)", x -> x.copyStore(3, 31));
        no(4, "copyStore(3, 32)", x -> x.copyStore(3, 32));
        given(x -> x.tray(3, 0, 0));
        yes(0, "copyStore(3, 0), an empty one", x -> x.copyStore(3, 0));
        no(4, "copyStore(3, 1), an empty one", x -> x.copyStore(3, 1));
    }

    private static void bakeAndCut() {
        given(x -> { });
        yes(99, "bake(1) to 99", x -> x.bake(1));
        no(7, "bake(2) to 100", x -> x.bake(2));
        no(7, "bake(99)", x -> x.bake(99));
        no(5, "bake(0)", x -> x.bake(0));
        no(5, "bake(-1)", x -> x.bake(-1));
        no(5, "bake(100)", x -> x.bake(100));
        no(5, "bake(min)", x -> x.bake(MIN));
        no(5, "bake(max)", x -> x.bake(MAX));
        given(x -> x.bakery(0));
        yes(99, "bake(99) of none", x -> x.bake(99));
        no(5, "bake(100) of none", x -> x.bake(100));
        // The STORE: 98 of 1, 99 of 2, 2 of 3, 98 of 4, 1 of 12, 1 of 29, 99 of 30.
        given(x -> { });
        yes(399, "cut(3, 4, 12), 4 to 99", x -> x.cut(3, 4, 12));
        yes(399, "cut(3, 12, 4)", x -> x.cut(3, 12, 4));
        yes(399, "cut(4, 12, 6)", x -> x.cut(4, 12, 6));
        no(2, "cut(0, 2, 2)", x -> x.cut(0, 2, 2));
        no(2, "cut(31, 2, 2)", x -> x.cut(31, 2, 2));
        no(2, "cut(2, 0, 4)", x -> x.cut(2, 0, 4));
        no(2, "cut(2, 31, 4)", x -> x.cut(2, 31, 4));
        no(2, "cut(2, 4, 0)", x -> x.cut(2, 4, 0));
        no(2, "cut(2, 4, 31)", x -> x.cut(2, 4, 31));
        no(7, "cut(2, 4, 4), 4 to 100", x -> x.cut(2, 4, 4));
        no(7, "cut(1, 2, 2), 2 to 101", x -> x.cut(1, 2, 2));
        no(7, "cut(6, 30, 5), none there, not so", x -> x.cut(6, 30, 5));
        no(7, "cut(5, 6, 30), none there", x -> x.cut(5, 6, 30));
        no(7, "cut(3, 5, 30), not so", x -> x.cut(3, 5, 30));
        no(9, "cut(5, 10, 10), none there", x -> x.cut(5, 10, 10));
        no(9, "cut(3, 6, 12), not so", x -> x.cut(3, 6, 12));
        no(9, "cut(5, 10, 11), none there, not so", x -> x.cut(5, 10, 11));
        no(9, "cut(2, 2, 3), 2 stays 99", x -> x.cut(2, 2, 3));
        no(9, "cut(30, 29, 30), 30 stays 99", x -> x.cut(30, 29, 30));
        no(7, "cut(30, 30, 30), 30 to 100", x -> x.cut(30, 30, 30));
        no(2, "cut(31, 2, 2), no SLICE, too many", x -> x.cut(31, 2, 2));
        given(x -> x.cut(3, 4, 12));
        no(7, "cut(3, 4, 12), 4 to 100", x -> x.cut(3, 4, 12));
        no(7, "cut(3, 12, 4), 4 to 100", x -> x.cut(3, 12, 4));
    }

    private static void split() {
        given(x -> { });
        yes(400, "split(3, 3)", x -> x.split(3, 3));
        yes(399, "split(3, 2)", x -> x.split(3, 2));
        yes(398 + 6, "split(3, 7)", x -> x.split(3, 7));
        no(2, "split(0, 2)", x -> x.split(0, 2));
        no(2, "split(31, 2)", x -> x.split(31, 2));
        no(5, "split(3, 1)", x -> x.split(3, 1));
        no(5, "split(3, 31)", x -> x.split(3, 31));
        no(7, "split(1, 2), 2 to 101", x -> x.split(1, 2));
        no(7, "split(2, 2), 4 to 100", x -> x.split(2, 2));
        no(7, "split(15, 2), none there, 30 to 101", x -> x.split(15, 2));
        no(9, "split(5, 2), none there", x -> x.split(5, 2));
        no(9, "split(3, 11), beyond 30", x -> x.split(3, 11));
        no(9, "split(16, 2), none there, beyond 30", x -> x.split(16, 2));
        no(9, "split(30, 30), beyond 30", x -> x.split(30, 30));
        no(2, "split(0, 1)", x -> x.split(0, 1));
        no(2, "split(31, 31)", x -> x.split(31, 31));
        no(5, "split(5, 1), none there", x -> x.split(5, 1));
        no(5, "split(30, 31), beyond 30", x -> x.split(30, 31));
        given(x -> {
            x.bakery(0);
            x.bake(9);
        });
        yes(38, "split(1, 30)", x -> x.split(1, 30));
        no(5, "split(1, 31)", x -> x.split(1, 31));
        given(x -> bakeryAlone(x, "store 1; store 2 times 97; store 5 times 96; store 10 times 98;"));
        yes(2 + 97 + 96 + 98, "split(1, 2), 2 to 99", x -> x.split(1, 2));
        no(7, "split(1, 5), 5 to 101", x -> x.split(1, 5));
        no(7, "split(5, 2), 10 to 100", x -> x.split(5, 2));
    }

    private static void giveAndTake() {
        given(x -> { });
        yes(3, "give(0, 12), the last one", x -> x.give(0, 12));
        yes(1, "give(1, 30)", x -> x.give(1, 30));
        yes(3, "give(2, 1)", x -> x.give(2, 1));
        no(2, "give(-1, 3)", x -> x.give(-1, 3));
        no(2, "give(3, 3)", x -> x.give(3, 3));
        no(2, "give(0, 0)", x -> x.give(0, 0));
        no(2, "give(0, 31)", x -> x.give(0, 31));
        no(2, "give(0, -1)", x -> x.give(0, -1));
        no(9, "give(0, 5), none there", x -> x.give(0, 5));
        no(9, "give(0, 30), he HAS one", x -> x.give(0, 30));
        given(x -> x.give(0, 12));
        no(9, "give(0, 12), none there, he HAS one", x -> x.give(0, 12));
        no(9, "give(1, 12), the last one is gone", x -> x.give(1, 12));
        given(x -> { });
        yes(1, "take(2, 4), 4 to 99", x -> x.take(2, 4));
        no(2, "take(-1, 2)", x -> x.take(-1, 2));
        no(2, "take(3, 2)", x -> x.take(3, 2));
        no(2, "take(0, 0)", x -> x.take(0, 0));
        no(2, "take(0, 31)", x -> x.take(0, 31));
        no(7, "take(0, 2), 99 there", x -> x.take(0, 2));
        no(7, "take(1, 2), 99 there, he HAS none", x -> x.take(1, 2));
        no(9, "take(0, 4), he HAS none", x -> x.take(0, 4));
        no(9, "take(1, 5), he HAS none, none there", x -> x.take(1, 5));
        given(x -> x.give(1, 12));
        yes(0, "take(1, 12)", x -> x.take(1, 12));
    }

    private static void oweAndCome() {
        given(x -> { });
        holds("owe(0, 1, 1)", x -> x.owe(0, 1, 1));
        holds("owe(2, 99, 30)", x -> x.owe(2, 99, 30));
        never(2, "owe(-1, 1, 1)", x -> x.owe(-1, 1, 1));
        never(2, "owe(3, 1, 1)", x -> x.owe(3, 1, 1));
        never(5, "owe(0, 0, 1)", x -> x.owe(0, 0, 1));
        never(5, "owe(0, 100, 1)", x -> x.owe(0, 100, 1));
        never(5, "owe(0, 1, 0)", x -> x.owe(0, 1, 0));
        never(5, "owe(0, 1, 31)", x -> x.owe(0, 1, 31));
        never(2, "owe(3, 0, 0)", x -> x.owe(3, 0, 0));
        yes(3, "come(1, 1)", x -> x.come(1, 1));
        yes(3, "come(99, 30)", x -> x.come(99, 30));
        no(5, "come(0, 1)", x -> x.come(0, 1));
        no(5, "come(100, 1)", x -> x.come(100, 1));
        no(5, "come(1, 0)", x -> x.come(1, 0));
        no(5, "come(1, 31)", x -> x.come(1, 31));
        given(x -> {
            x.come(1, 1);
            x.come(1, 1);
        });
        yes(5, "come(1, 1), the sixth", x -> x.come(1, 1));
        given(x -> {
            x.come(1, 1);
            x.come(1, 1);
            x.come(1, 1);
        });
        no(7, "come(1, 1), a seventh", x -> x.come(1, 1));
        no(5, "come(1, 31), a seventh", x -> x.come(1, 31));
        holds("owe(5, 2, 3)", x -> x.owe(5, 2, 3));
        never(2, "owe(6, 2, 3)", x -> x.owe(6, 2, 3));
    }

    private static void learnAndRule() {
        given(x -> { });
        holds("learn(1, true)", x -> x.learn(1, true));
        holds("learn(30, true)", x -> x.learn(30, true));
        holds("learn(2, false)", x -> x.learn(2, false));
        never(2, "learn(0, true)", x -> x.learn(0, true));
        never(2, "learn(31, true)", x -> x.learn(31, true));
        never(2, "learn(0, false)", x -> x.learn(0, false));
        never(2, "learn(33, false), as 1 by 32 bits", x -> x.learn(33, false));
        never(9, "learn(2, true)", x -> x.learn(2, true));
        never(9, "learn(30, false)", x -> x.learn(30, false));
        holds("rule(0)", x -> x.rule(0));
        holds("rule(16)", x -> x.rule(16));
        never(5, "rule(-1)", x -> x.rule(-1));
        never(5, "rule(17)", x -> x.rule(17));
    }

    /** SHARES that can't be: one below, one more of each number. */
    private static void wrongShares(String name, Share call) {
        int[][] wrong = {{0, 2}, {100, 30}, {-1, 2}, {1, 0}, {1, 31}, {1, -1}, {MIN, 1}, {1, MAX}, {0, 0}};
        for (int[] share : wrong) {
            no(5, name + " of " + share[0] + " by " + share[1], x -> call.of(x, share[0], share[1]));
        }
    }

    /** A call that asks of a SHARE. */
    private interface Share {
        long of(BreadScribes x, int p, int q);
    }

    private static void fewestAndKindest() {
        // KNOWN: 2 3 4 5 6 8 10 12 15 20.
        given(x -> { });
        wrongShares("fewest", (x, p, q) -> x.fewest(p, q));
        wrongShares("fewestAt", (x, p, q) -> x.fewestAt(p, q, 9));
        wrongShares("kindestAt", (x, p, q) -> x.kindestAt(p, q, -1));
        yes(1, "fewest(15, 30)", x -> x.fewest(15, 30));
        yes(2, "fewest(3, 4)", x -> x.fewest(3, 4));
        no(8, "fewest(1, 30), not KNOWN", x -> x.fewest(1, 30));
        no(8, "fewest(99, 1)", x -> x.fewest(99, 1));
        no(8, "fewest(99, 30)", x -> x.fewest(99, 30));
        no(8, "fewest(1, 7), not KNOWN", x -> x.fewest(1, 7));
        yes(2, "fewestAt(3, 4, 0)", x -> x.fewestAt(3, 4, 0));
        yes(4, "fewestAt(3, 4, 1)", x -> x.fewestAt(3, 4, 1));
        no(8, "fewestAt(3, 4, 2)", x -> x.fewestAt(3, 4, 2));
        no(8, "fewestAt(3, 4, -1)", x -> x.fewestAt(3, 4, -1));
        no(8, "fewestAt(3, 4, max)", x -> x.fewestAt(3, 4, MAX));
        no(8, "fewestAt(1, 7, 0)", x -> x.fewestAt(1, 7, 0));
        yes(3, "kindestAt(2, 5, 0)", x -> x.kindestAt(2, 5, 0));
        yes(15, "kindestAt(2, 5, 1)", x -> x.kindestAt(2, 5, 1));
        no(8, "kindestAt(2, 5, 2)", x -> x.kindestAt(2, 5, 2));
        no(8, "kindestAt(2, 5, -1)", x -> x.kindestAt(2, 5, -1));
        no(8, "kindestAt(2, 5, min)", x -> x.kindestAt(2, 5, MIN));
        no(8, "kindestAt(1, 7, 0)", x -> x.kindestAt(1, 7, 0));
        // 29 by 20 is 2 3 4 5 6, and no fewer; with 20 more, which is 3 by 2, it would be six.
        given(x -> bakeryAlone(x, "known 2 3 4 5 6 20;"));
        yes(5, "fewest(29, 20), 5 SLICES", x -> x.fewest(29, 20));
        yes(6, "fewestAt(29, 20, 4)", x -> x.fewestAt(29, 20, 4));
        no(8, "fewestAt(29, 20, 5)", x -> x.fewestAt(29, 20, 5));
        yes(6, "kindestAt(29, 20, 4)", x -> x.kindestAt(29, 20, 4));
        no(8, "kindestAt(29, 20, 5)", x -> x.kindestAt(29, 20, 5));
        no(8, "fewest(3, 2), 6 SLICES", x -> x.fewest(3, 2));
        no(8, "fewestAt(3, 2, 5), 6 SLICES", x -> x.fewestAt(3, 2, 5));
        no(8, "kindestAt(3, 2, 0), 6 SLICES", x -> x.kindestAt(3, 2, 0));
        given(x -> bakeryAlone(x, "known;"));
        no(8, "fewest(1, 1), none KNOWN", x -> x.fewest(1, 1));
        no(8, "fewestAt(1, 1, 0), none KNOWN", x -> x.fewestAt(1, 1, 0));
        no(8, "kindestAt(1, 1, 0), none KNOWN", x -> x.kindestAt(1, 1, 0));
        given(x -> x.bakery(0));
        yes(1, "fewest(1, 1), all KNOWN", x -> x.fewest(1, 1));
        yes(30, "fewestAt(1, 30, 0), all KNOWN", x -> x.fewestAt(1, 30, 0));
    }

    private static void waysAndOdds() {
        given(x -> { });
        wrongShares("ways", (x, p, q) -> x.ways(p, q, 1));
        wrongShares("ask", (x, p, q) -> x.ask(p, q, 1));
        yes(1, "ways(1, 2, 1)", x -> x.ways(1, 2, 1));
        yes(0, "ways(99, 30, 5)", x -> x.ways(99, 30, 5));
        no(5, "ways(1, 2, 0)", x -> x.ways(1, 2, 0));
        no(5, "ways(1, 2, 6)", x -> x.ways(1, 2, 6));
        yes(2, "ways(2, 5, 3)", x -> x.ways(2, 5, 3));
        holds("oddsThat(2, 5, 3, 1)", x -> x.oddsThat(2, 5, 3, 1));
        holds("oddsThat(2, 5, 3, 30)", x -> x.oddsThat(2, 5, 3, 30));
        never(2, "oddsThat(2, 5, 3, 0)", x -> x.oddsThat(2, 5, 3, 0));
        never(2, "oddsThat(2, 5, 3, 31)", x -> x.oddsThat(2, 5, 3, 31));
        never(5, "oddsThat(0, 5, 3, 1)", x -> x.oddsThat(0, 5, 3, 1));
        never(5, "oddsThat(100, 5, 3, 1)", x -> x.oddsThat(100, 5, 3, 1));
        never(5, "oddsThat(2, 0, 3, 1)", x -> x.oddsThat(2, 0, 3, 1));
        never(5, "oddsThat(2, 31, 3, 1)", x -> x.oddsThat(2, 31, 3, 1));
        never(5, "oddsThat(2, 5, 0, 1)", x -> x.oddsThat(2, 5, 0, 1));
        never(5, "oddsThat(2, 5, 6, 1)", x -> x.oddsThat(2, 5, 6, 1));
        never(8, "oddsThat(1, 7, 3, 1), no ROW", x -> x.oddsThat(1, 7, 3, 1));
        never(8, "oddsThat(2, 5, 1, 5), no ROW of one", x -> x.oddsThat(2, 5, 1, 5));
        never(2, "oddsThat(0, 0, 0, 31)", x -> x.oddsThat(0, 0, 0, 31));
        never(2, "oddsThat(1, 7, 3, 0), no ROW", x -> x.oddsThat(1, 7, 3, 0));
        yes(10, "ask(2, 5, 3), two ROWS", x -> x.ask(2, 5, 3));
        no(8, "ask(2, 5, 2), one ROW", x -> x.ask(2, 5, 2));
        no(8, "ask(1, 7, 1), no ROW", x -> x.ask(1, 7, 1));
        no(5, "ask(2, 5, 0)", x -> x.ask(2, 5, 0));
        no(5, "ask(2, 5, 6)", x -> x.ask(2, 5, 6));
    }

    private static void greedy() {
        given(x -> { });
        wrongShares("greedyAt", (x, p, q) -> x.greedyAt(p, q, -1));
        yes(30, "greedyAt(1, 30, 0)", x -> x.greedyAt(1, 30, 0));
        yes(2, "greedyAt(29, 30, 0)", x -> x.greedyAt(29, 30, 0));
        no(5, "greedyAt(30, 30, 0)", x -> x.greedyAt(30, 30, 0));
        no(5, "greedyAt(1, 1, 0)", x -> x.greedyAt(1, 1, 0));
        no(5, "greedyAt(2, 1, 0)", x -> x.greedyAt(2, 1, 0));
        no(5, "greedyAt(99, 30, 9)", x -> x.greedyAt(99, 30, 9));
        no(8, "greedyAt(1, 30, 1)", x -> x.greedyAt(1, 30, 1));
        no(8, "greedyAt(1, 30, -1)", x -> x.greedyAt(1, 30, -1));
        no(8, "greedyAt(1, 30, max)", x -> x.greedyAt(1, 30, MAX));
        yes(28_328, "greedyAt(27, 29, 4)", x -> x.greedyAt(27, 29, 4));
        no(9, "greedyAt(27, 29, 5), above 100,000,000", x -> x.greedyAt(27, 29, 5));
        no(8, "greedyAt(27, 29, 6), no such, that ahead of it above 100,000,000", x -> x.greedyAt(27, 29, 6));
    }

    private static void slips() {
        // TRAYS 0 (five numbers), 1 (twelve): 2 5 30 31 0 ...
        given(x -> { });
        wrongShares("slips", (x, p, q) -> x.slips(0, 2, p, q));
        wrongShares("slipAt", (x, p, q) -> x.slipAt(0, 2, p, q, 9, 0));
        yes(1, "slips(0, 1, 1, 3)", x -> x.slips(0, 1, 1, 3));
        yes(1, "slips(0, 2, 3, 4)", x -> x.slips(0, 2, 3, 4));
        no(1, "slips(-1, 2, 3, 4)", x -> x.slips(-1, 2, 3, 4));
        no(1, "slips(4, 2, 3, 4)", x -> x.slips(4, 2, 3, 4));
        no(3, "slips(3, 2, 3, 4)", x -> x.slips(3, 2, 3, 4));
        no(4, "slips(0, 6, 3, 4)", x -> x.slips(0, 6, 3, 4));
        no(5, "slips(0, 0, 3, 4)", x -> x.slips(0, 0, 3, 4));
        no(5, "slips(0, -1, 3, 4)", x -> x.slips(0, -1, 3, 4));
        no(5, "slips(1, 9, 3, 4)", x -> x.slips(1, 9, 3, 4));
        no(5, "slips(0, 4, 3, 4), 31 in the TRAY", x -> x.slips(0, 4, 3, 4));
        no(5, "slips(1, 8, 3, 4), 0 in the TRAY", x -> x.slips(1, 8, 3, 4));
        no(1, "slips(4, 99, 0, 0)", x -> x.slips(4, 99, 0, 0));
        no(3, "slips(3, 99, 0, 0)", x -> x.slips(3, 99, 0, 0));
        no(4, "slips(0, 6, 0, 0)", x -> x.slips(0, 6, 0, 0));
        no(4, "slips(1, 13, 3, 4)", x -> x.slips(1, 13, 3, 4));
        yes(1, "slipAt(0, 2, 3, 4, 0, 0)", x -> x.slipAt(0, 2, 3, 4, 0, 0));
        yes(4, "slipAt(0, 2, 3, 4, 0, 1)", x -> x.slipAt(0, 2, 3, 4, 0, 1));
        no(1, "slipAt(4, 2, 3, 4, 0, 0)", x -> x.slipAt(4, 2, 3, 4, 0, 0));
        no(1, "slipAt(-1, 2, 3, 4, 0, 0)", x -> x.slipAt(-1, 2, 3, 4, 0, 0));
        no(3, "slipAt(3, 2, 3, 4, 0, 0)", x -> x.slipAt(3, 2, 3, 4, 0, 0));
        no(4, "slipAt(0, 6, 3, 4, 0, 0)", x -> x.slipAt(0, 6, 3, 4, 0, 0));
        no(5, "slipAt(0, 0, 3, 4, 0, 0)", x -> x.slipAt(0, 0, 3, 4, 0, 0));
        no(5, "slipAt(1, 9, 3, 4, 0, 0)", x -> x.slipAt(1, 9, 3, 4, 0, 0));
        no(5, "slipAt(0, 5, 3, 4, 0, 0)", x -> x.slipAt(0, 5, 3, 4, 0, 0));
        no(5, "slipAt(0, 2, 3, 4, 0, -1)", x -> x.slipAt(0, 2, 3, 4, 0, -1));
        no(5, "slipAt(0, 2, 3, 4, 0, 2)", x -> x.slipAt(0, 2, 3, 4, 0, 2));
        no(8, "slipAt(0, 2, 3, 4, 1, 0)", x -> x.slipAt(0, 2, 3, 4, 1, 0));
        no(8, "slipAt(0, 2, 3, 4, -1, 1)", x -> x.slipAt(0, 2, 3, 4, -1, 1));
        no(5, "slipAt(0, 2, 3, 4, 1, 2), no such", x -> x.slipAt(0, 2, 3, 4, 1, 2));
        no(4, "slipAt(0, 6, 3, 4, 1, 2), no such", x -> x.slipAt(0, 6, 3, 4, 1, 2));
        given(x -> x.tray(3, 3, 8));
        no(5, "slips of an empty TRAY of 8", x -> x.slips(3, 8, 3, 4));
        given(x -> {
            x.bakery(0);
            x.tray(3, 3, 9);
            int[] numbers = {30, 20, 12, 6, 5, 4, 2, 15, 1};
            for (int i = 0; i < numbers.length; i++) {
                x.write(3, i, numbers[i]);
            }
        });
        yes(0, "slips of 8, a ROW", x -> x.slips(3, 8, 27, 20));
        no(5, "slips of 9", x -> x.slips(3, 9, 47, 20));
        no(4, "slips of 10", x -> x.slips(3, 10, 47, 20));
        given(x -> {
            x.bakery(0);
            x.tray(3, 2, 0);
        });
        no(5, "slips of 0 of an empty one", x -> x.slips(3, 0, 1, 2));
        no(4, "slips of 1 of an empty one", x -> x.slips(3, 1, 1, 2));
    }

    private static void reach() {
        given(x -> bakeryAlone(x, "store 3; store 30 times 99;"));
        yes(0, "reach(3)", x -> x.reach(3));
        yes(0, "reach(30)", x -> x.reach(30));
        yes(1, "reach(12)", x -> x.reach(12));
        no(2, "reach(0)", x -> x.reach(0));
        no(2, "reach(31)", x -> x.reach(31));
        no(8, "reach(1)", x -> x.reach(1));
        no(8, "reach(2)", x -> x.reach(2));
        yes(3, "reachAt(3, 0)", x -> x.reachAt(3, 0));
        no(8, "reachAt(3, 1)", x -> x.reachAt(3, 1));
        no(8, "reachAt(3, -1)", x -> x.reachAt(3, -1));
        yes(12, "reachAt(12, 1)", x -> x.reachAt(12, 1));
        no(8, "reachAt(12, 2)", x -> x.reachAt(12, 2));
        no(8, "reachAt(1, 0)", x -> x.reachAt(1, 0));
        no(2, "reachAt(0, 0)", x -> x.reachAt(0, 0));
        no(2, "reachAt(31, -1)", x -> x.reachAt(31, -1));
        given(x -> x.bakery(0));
        no(8, "reach(30) of an empty STORE", x -> x.reach(30));
        no(8, "reachAt(30, 0) of an empty STORE", x -> x.reachAt(30, 0));
    }

    private static void fill() {
        // a LACKS 3/4 - 1/2 - 1/30; b 2/5; c 1/8.
        given(x -> x.owe(2, 3, 4));
        yes(0, "fill(2), EVEN", x -> x.fill(2));
        no(8, "fillAt(2, 0), EVEN", x -> x.fillAt(2, 0));
        no(2, "fill(-1)", x -> x.fill(-1));
        no(2, "fill(3)", x -> x.fill(3));
        no(2, "fillAt(-1, 0)", x -> x.fillAt(-1, 0));
        no(2, "fillAt(3, -1)", x -> x.fillAt(3, -1));
        given(x -> x.owe(2, 29, 30));
        no(8, "fill(2) of 13 by 60, by none", x -> x.fill(2));
        given(x -> x.owe(2, 1, 4));
        no(8, "fill(2), he LACKS less than 0", x -> x.fill(2));
        no(8, "fillAt(2, 0), he LACKS less than 0", x -> x.fillAt(2, 0));
        given(x -> x.owe(1, 5, 12));
        yes(2, "fill(1) of 5 by 12", x -> x.fill(1));
        yes(3, "fillAt(1, 0)", x -> x.fillAt(1, 0));
        yes(12, "fillAt(1, 1)", x -> x.fillAt(1, 1));
        no(8, "fillAt(1, 2)", x -> x.fillAt(1, 2));
        no(8, "fillAt(1, -1)", x -> x.fillAt(1, -1));
        given(x -> bakeryAlone(x, "known; store 2; store 3; store 4; store 5; store 6; store 20; man a due 29 by 20;"
                    + "man b due 3 by 2;"));
        yes(5, "fill(0), 5 SLICES", x -> x.fill(0));
        yes(6, "fillAt(0, 4)", x -> x.fillAt(0, 4));
        no(8, "fillAt(0, 5)", x -> x.fillAt(0, 5));
        no(8, "fill(1), 6 SLICES", x -> x.fill(1));
        no(8, "fillAt(1, 0), 6 SLICES", x -> x.fillAt(1, 0));
        given(x -> x.bakery(0));
        no(2, "fill(0) without MEN", x -> x.fill(0));
    }

    private static void plate() {
        given(x -> { });
        int[] wrong = {-1, MIN, 1 << 30, MAX, THIRTEEN, THIRTEEN << 17, (1 << 30) - 1, 1 << 30 | 3};
        for (int set : wrong) {
            no(5, "plate(" + set + ")", x -> x.plate(set));
            no(5, "plateMove(" + set + ")", x -> x.plateMove(set));
            never(5, "luck(" + set + ", 1, 1, 2)", x -> x.luck(set, 1, 1, 2));
        }
        yes(0, "plate(0)", x -> x.plate(0));
        no(8, "plateMove(0)", x -> x.plateMove(0));
        yes(1, "plate(1 << 29)", x -> x.plate(1 << 29));
        yes(30, "plateMove(1 << 29)", x -> x.plateMove(1 << 29));
        yes(0, "plate of 12", x -> x.plate(TWELVE << 18));
        no(8, "plateMove of 12, who begins loses", x -> x.plateMove(TWELVE << 18));
        yes(1, "plate of 1 .. 12", x -> x.plate(TWELVE));
        yes(1, "plateMove of 1 .. 12", x -> x.plateMove(TWELVE));
    }

    private static void luckAndBurnt() {
        given(x -> { });
        holds("luck of none, 0", x -> x.luck(0, 0, 1, 1));
        holds("luck of 12, 12", x -> x.luck(TWELVE, 12, 99, 30));
        holds("luck of 12, 0", x -> x.luck(TWELVE, 0, 1, 1));
        never(5, "luck, -1", x -> x.luck(TWELVE, -1, 1, 1));
        never(5, "luck, 13", x -> x.luck(TWELVE, 13, 1, 1));
        never(5, "luck of 0 by 1", x -> x.luck(3, 1, 0, 1));
        never(5, "luck of 100 by 1", x -> x.luck(3, 1, 100, 1));
        never(5, "luck of 1 by 0", x -> x.luck(3, 1, 1, 0));
        never(5, "luck of 1 by 31", x -> x.luck(3, 1, 1, 31));
        holds("luck of 2, 2", x -> x.luck(3, 2, 1, 1));
        never(8, "luck of 2, 3", x -> x.luck(3, 3, 1, 1));
        never(8, "luck of 2, 12", x -> x.luck(3, 12, 1, 1));
        never(8, "luck of none, 1", x -> x.luck(0, 1, 1, 1));
        never(5, "luck of 2, 3, of 0 by 1", x -> x.luck(3, 3, 0, 1));
        never(5, "luck of 2, 13", x -> x.luck(3, 13, 1, 1));
        holds("burnt(0, 0)", x -> x.burnt(0, 0));
        holds("burnt(12, 12)", x -> x.burnt(12, 12));
        holds("burnt(0, 12)", x -> x.burnt(0, 12));
        never(5, "burnt(-1, 0)", x -> x.burnt(-1, 0));
        never(5, "burnt(13, 0)", x -> x.burnt(13, 0));
        never(5, "burnt(0, -1)", x -> x.burnt(0, -1));
        never(5, "burnt(0, 13)", x -> x.burnt(0, 13));
        never(5, "burnt(min, max)", x -> x.burnt(MIN, MAX));
    }

    private static void live() {
        given(x -> { });
        yes(8 - 1, "live(0)", x -> x.live(0));
        yes(8 - 1, "live(9999)", x -> x.live(9_999));
        no(5, "live(-1)", x -> x.live(-1));
        no(5, "live(10000)", x -> x.live(10_000));
        given(x -> x.back());
        no(8, "live(0) without DAYS", x -> x.live(0));
        no(5, "live(-1) without DAYS", x -> x.live(-1));
        no(5, "live(10000) without DAYS", x -> x.live(10_000));
        never(8, "mean(0, 1) without DAYS", x -> x.mean(0, 1));
        never(5, "mean(0, 0) without DAYS", x -> x.mean(0, 0));
        never(5, "mean(9999, 2) without DAYS", x -> x.mean(9_999, 2));
        given(x -> x.bakery(0));
        no(8, "live(0) behind a BAKERY", x -> x.live(0));
        given(x -> x.days(0));
        yes(0, "live(0) of DAYS of no STEPS", x -> x.live(0));
        holds("mean(0, 1) of DAYS of no STEPS", x -> x.mean(0, 1));
    }

    private static void lived() {
        given(x -> { });
        no(8, "lived(0) ahead of any", x -> x.lived(0));
        no(8, "lived(4) ahead of any", x -> x.lived(4));
        no(5, "lived(-1) ahead of any", x -> x.lived(-1));
        no(5, "lived(5) ahead of any", x -> x.lived(5));
        given(x -> x.mean(0, 1));
        no(8, "lived(0) behind mean alone", x -> x.lived(0));
        given(x -> x.live(-1));
        no(8, "lived(0) behind live() with STATUS 5", x -> x.lived(0));
        given(x -> x.live(0));
        yes(0, "lived(4)", x -> x.lived(4));
        yes(1, "lived(3)", x -> x.lived(3));
        no(5, "lived(-1)", x -> x.lived(-1));
        no(5, "lived(5)", x -> x.lived(5));
    }

    private static void mean() {
        given(x -> { });
        holds("mean(0, 1)", x -> x.mean(0, 1));
        holds("mean(0, 20)", x -> x.mean(0, 20));
        holds("mean(9999, 1)", x -> x.mean(9_999, 1));
        holds("mean(9980, 20)", x -> x.mean(9_980, 20));
        never(5, "mean(0, 0)", x -> x.mean(0, 0));
        never(5, "mean(0, 21)", x -> x.mean(0, 21));
        never(5, "mean(-1, 1)", x -> x.mean(-1, 1));
        never(5, "mean(-1, 2)", x -> x.mean(-1, 2));
        never(5, "mean(10000, 1)", x -> x.mean(10_000, 1));
        never(5, "mean(9999, 2)", x -> x.mean(9_999, 2));
        never(5, "mean(9981, 20)", x -> x.mean(9_981, 20));
        never(5, "mean(max, 20)", x -> x.mean(MAX, 20));
        never(5, "mean(0, max)", x -> x.mean(0, MAX));
    }

    private static void marks() {
        given(x -> x.mark());
        yes(3, "mark(), the third", x -> x.mark());
        given(x -> {
            x.mark();
            x.live(1);
            x.mark();
            x.live(2);
        });
        no(7, "mark(), a fourth", x -> x.mark());
        given(x -> { });
        yes(0, "back() to the only one", x -> x.back());
        given(x -> x.back());
        no(8, "back() without", x -> x.back());
    }

    private static String ofAll(String ahead, String behind) {
        StringBuilder text = new StringBuilder();
        for (int slice = 1; slice <= 30; slice++) {
            text.append(ahead).append(slice).append(behind);
        }
        return text.toString();
    }

    /** 99 of each SLICE, one who HAS each, and one who HAS none. */
    private static void allFull() {
        String text = ofAll("store ", " times 99;") + "man a due 99 by 1 has" + ofAll(" ", "") + ";man b due 1 by 30;";
        given(x -> bakeryAlone(x, text));
        yes(2970, "many(1), full", x -> x.many(1));
        yes(30, "many(2), full", x -> x.many(2));
        no(7, "bake(1), full", x -> x.bake(1));
        no(7, "cut(1, 2, 2), full", x -> x.cut(1, 2, 2));
        no(7, "cut(2, 2, 2), full, 2 to 100", x -> x.cut(2, 2, 2));
        no(7, "cut(2, 2, 1), full, 1 to 100", x -> x.cut(2, 2, 1));
        no(7, "split(15, 2), full", x -> x.split(15, 2));
        no(9, "split(15, 3), full, beyond 30", x -> x.split(15, 3));
        no(9, "split(16, 2), full, beyond 30", x -> x.split(16, 2));
        no(9, "give(0, 1), he HAS all", x -> x.give(0, 1));
        no(9, "give(0, 30), he HAS all", x -> x.give(0, 30));
        yes(1, "give(1, 30)", x -> x.give(1, 30));
        no(7, "take(0, 1), full", x -> x.take(0, 1));
        no(7, "take(1, 30), full, he HAS none", x -> x.take(1, 30));
        yes(0, "reach(30), full", x -> x.reach(30));
        no(8, "fill(0), he HAS all", x -> x.fill(0));
        yes(30, "fillAt(1, 0), full", x -> x.fillAt(1, 0));
        given(x -> {
            bakeryAlone(x, text);
            x.give(1, 30);
        });
        yes(29, "take(0, 30), 98 there", x -> x.take(0, 30));
        yes(0, "take(1, 30), 98 there", x -> x.take(1, 30));
        no(7, "split(15, 2), 30 to 100", x -> x.split(15, 2));
        // Whatever the draws, nothing can be: he HAS all, and what comes of a SPLIT would be too many.
        String one = ofAll("store ", " times 99;") + "man a due 99 by 1 has" + ofAll(" ", "") + ";";
        for (int odds = 0; odds <= 16; odds += 8) {
            int told = odds;
            given(x -> {
                bakeryAlone(x, one);
                x.rule(told);
                Check.days(x, "loop 99; any; take a 1; bake 1; end;");
                x.live(5);
            });
            yes(297, "lived(0) of what can't be, ODDS " + odds, x -> x.lived(0));
            yes(0, "lived(1) of what can't be", x -> x.lived(1));
            yes(0, "lived(2) of what can't be", x -> x.lived(2));
            yes(0, "lived(3) of what can't be", x -> x.lived(3));
        }
    }

    /** A BAKERY of nothing: no STORE, no MEN, nothing KNOWN, an empty tape. */
    private static void allEmpty() {
        given(x -> bakeryAlone(x, "known;"));
        yes(0, "many(0), empty", x -> x.many(0));
        yes(0, "many(1), empty", x -> x.many(1));
        yes(0, "many(2), empty", x -> x.many(2));
        yes(0, "many(4), empty", x -> x.many(4));
        yes(0, "many(6), empty", x -> x.many(6));
        holds("worth(), empty", x -> x.worth());
        no(9, "cut(1, 2, 2), empty", x -> x.cut(1, 2, 2));
        no(9, "split(1, 2), empty", x -> x.split(1, 2));
        no(8, "reach(1), empty", x -> x.reach(1));
        no(8, "fewest(1, 2), nothing KNOWN", x -> x.fewest(1, 2));
        yes(0, "ways(1, 2, 1), nothing KNOWN", x -> x.ways(1, 2, 1));
        never(8, "oddsThat(1, 2, 1, 2), nothing KNOWN", x -> x.oddsThat(1, 2, 1, 2));
        no(8, "ask(1, 2, 1), nothing KNOWN", x -> x.ask(1, 2, 1));
        yes(2, "greedyAt(1, 2, 0), nothing KNOWN", x -> x.greedyAt(1, 2, 0));
        no(2, "give(0, 1) without MEN", x -> x.give(0, 1));
        no(2, "take(0, 1) without MEN", x -> x.take(0, 1));
        never(2, "owe(0, 1, 1) without MEN", x -> x.owe(0, 1, 1));
        no(5, "bakery(1) of an empty tape", x -> x.bakery(1));
        no(5, "days(1) of an empty tape", x -> x.days(1));
        yes(0, "bakery(0) of an empty tape", x -> x.bakery(0));
        yes(0, "days(0) of an empty tape", x -> x.days(0));
    }
}
