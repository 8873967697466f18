import java.util.Random;

/** Calls at random, by numbers that are wrong, too: none throws, and what is refused changes nothing but STATUS. */
public final class AnyCallTest {
    private static final int[] EDGES = {Integer.MIN_VALUE, -2, -1, 0, 1, 2, 3, 4, 5, 6, 12, 13, 15, 16, 17, 29, 30, 31,
        60, 61, 99, 100, 300, 900, 9_999, 10_000, 1 << 29, (1 << 30) - 1, 1 << 30, Integer.MAX_VALUE};
    private static final String[] WORDS = {"odds", "store", "times", "man", "due", "by", "has", "known", "cut", "split",
        "give", "take", "bake", "any", "when", "even", "holds", "lacks", "loop", "end", "stop", "a", "bb", "abcdefghi",
        ";", ";", ";", "<", ">", "=", "1", "2", "3", "30", "31", "12345", "!", "\n"};

    private AnyCallTest() {
    }

    public static void main(String[] args) {
        for (int run = 0; run < 800; run++) {
            Random random = new Random(run);
            BreadScribes x = Check.with("odds 8; store 1 times 2; store 2; store 3 times 98; store 12; man a due 3 by 4 has 2;"
                    + "man bb due 2 by 5; known 2 3 4 5 6 8 10 12 15 20;", "any; any; loop 3; any; end; give a 3;");
            // Of all that is told each time, an object's 512 calls are enough for four.
            for (int i = run % 4 == 0 ? 36 : 0; i < 40; i++) {
                anyCall(x, run, random);
            }
        }
        texts();
        Check.end("AnyCallTest");
    }

    private static int number(Random random) {
        int kind = random.nextInt(4);
        return kind == 0 ? EDGES[random.nextInt(EDGES.length)] : kind == 1 ? random.nextInt(32) : random.nextInt(7);
    }

    private static void anyCall(BreadScribes x, int run, Random random) {
        String ahead = run % 4 == 0 ? Check.all(x) : "";
        int[] n = {number(random), number(random), number(random), number(random), number(random), number(random)};
        int call = random.nextInt(46);
        long answer = call < 23 ? first(x, call, n) : second(x, call, n);
        int status = x.status();
        Check.due("call " + call + " of run " + run + ": STATUS from 0 to 11", status >= 0 && status <= 11, true);
        Check.due("bottom() above 0", x.bottom() > 0, true);
        if (status != 0) {
            Check.due("call " + call + " of run " + run + " with STATUS " + status,
                    answer == BreadScribes.NONE || answer == 0, true);
            if (!ahead.isEmpty() && status != 10) {
                Check.due("all behind call " + call + " of run " + run, Check.all(x), ahead);
            }
        }
    }

    private static long of(boolean answer) {
        return answer ? 1 : 0;
    }

    private static long first(BreadScribes x, int call, int[] n) {
        switch (call) {
            case 0: return of(x.tray(n[0], n[1], n[2]));
            case 1: return of(x.write(n[0], n[1], n[2]));
            case 2: return x.read(n[0], n[1]) * 0;
            case 3: return of(x.pour(n[0], n[1], n[2], n[3], n[4]));
            case 4: return x.bakery(n[0]);
            case 5: return x.days(n[0]);
            case 6: return x.many(n[0]);
            case 7: return x.store(n[0]);
            case 8: return x.man(n[0], n[1]);
            case 9: return of(x.has(n[0]));
            case 10: return of(x.lacks(n[0]));
            case 11: return of(x.worth());
            case 12: return x.copyStore(n[0], n[1]);
            case 13: return x.bake(n[0]);
            case 14: return x.cut(n[0], n[1], n[2]);
            case 15: return x.split(n[0], n[1]);
            case 16: return x.give(n[0], n[1]);
            case 17: return x.take(n[0], n[1]);
            case 18: return of(x.owe(n[0], n[1], n[2]));
            case 19: return x.come(n[0], n[1]);
            case 20: return of(x.learn(n[0], n[1] > 2));
            case 21: return of(x.rule(n[0]));
            default: return x.fewest(n[0], n[1]);
        }
    }

    private static long second(BreadScribes x, int call, int[] n) {
        switch (call) {
            case 23: return x.fewestAt(n[0], n[1], n[2]);
            case 24: return x.ways(n[0], n[1], n[2]);
            case 25: return of(x.oddsThat(n[0], n[1], n[2], n[3]));
            case 26: return x.ask(n[0], n[1], n[2]);
            case 27: return x.kindestAt(n[0], n[1], n[2]);
            case 28: return x.greedyAt(n[0], n[1], n[2]);
            case 29: return x.slips(n[0], n[1], n[2], n[3]);
            case 30: return x.slipAt(n[0], n[1], n[2], n[3], n[4], n[5]);
            case 31: return x.reach(n[0]);
            case 32: return x.reachAt(n[0], n[1]);
            case 33: return x.fill(n[0]);
            case 34: return x.fillAt(n[0], n[1]);
            case 35: return x.plate(n[0]);
            case 36: return x.plateMove(n[0]);
            case 37: return of(x.luck(n[0], n[1], n[2], n[3]));
            case 38: return of(x.burnt(n[0], n[1]));
            case 39: return x.live(n[0]);
            case 40: return x.lived(n[0]);
            case 41: return of(x.mean(n[0], n[1]));
            case 42: return x.mark();
            case 43: return x.back();
            case 44: return Check.bakery(x, "store 3; man a due 1 by 1;");
            default: return Check.days(x, "any; when holds 3 > 0; any; end; bake 9;");
        }
    }

    /** TOKENS at random: a FAULT is told within the text, or none. */
    private static void texts() {
        Random random = new Random(1);
        for (int i = 0; i < 20_000; i++) {
            StringBuilder text = new StringBuilder();
            for (int j = random.nextInt(12); j > 0; j--) {
                text.append(WORDS[random.nextInt(WORDS.length)]).append(random.nextInt(3) == 0 ? "" : " ");
            }
            BreadScribes x = Check.with("man a due 1 by 1;");
            int answer = random.nextBoolean() ? Check.bakery(x, text.toString()) : Check.days(x, text.toString());
            boolean isFault = x.status() == 10;
            Check.due("answer of " + text, answer >= 0, !isFault);
            Check.due("fault(0) of " + text, x.fault(0) >= 1 && x.fault(0) <= 7, isFault);
            Check.due("fault(1) of " + text, x.fault(1) >= 0 && x.fault(1) <= text.length(), isFault);
        }
    }
}
