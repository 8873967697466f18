import java.util.Random;

/** Runs of calls at random, up to 500 on one object, against the Model: answers, STATUS, FRACTIONS. */
public final class RunsTest {
    private static final int[] EDGES = {Integer.MIN_VALUE, -1, -1, 0, 1, 2, 5, 6, 7, 8, 9, 12, 13, 16, 17, 20, 21, 29, 30, 31,
        60, 61, 98, 99, 100, 300, 301, 900, 901, 9_999, 10_000, 1 << 29, (1 << 30) - 1, 1 << 30, Integer.MAX_VALUE};
    private static final int[][] CUTS = {{1, 2, 2}, {2, 3, 6}, {2, 4, 4}, {3, 4, 12}, {4, 5, 20}, {4, 6, 12}, {6, 9, 18},
        {5, 6, 30}, {12, 20, 30}, {10, 15, 30}, {3, 4, 11}, {2, 2, 2}};
    private static final int[] MET = new int[12];

    private final Random random;
    private final RandomTexts texts;
    private final BreadScribes x = new BreadScribes();
    private final Model model = new Model();
    private int men = 0;
    private String told = "";
    private long got;
    private long want;

    private RunsTest(int run) {
        random = new Random(run);
        texts = new RandomTexts(random);
    }

    public static void main(String[] args) {
        for (int run = 0; run < 200; run++) {
            new RunsTest(run).calls(run);
        }
        for (int status = 0; status < MET.length; status++) {
            Check.due("calls with STATUS " + status + ", a dozen at least", MET[status] > 12, true);
        }
        Check.end("RunsTest");
    }

    private void calls(int run) {
        for (int calls = 0; calls < 470; ) {
            int call = random.nextInt(60);
            if (call > 56) {
                calls += feedAndRead(run);
            } else {
                oneCall(call);
                calls += 4;
                dueOf(run);
            }
        }
    }

    private void dueOf(int run) {
        String call = told + " of run " + run;
        Check.due(call, got, want);
        Check.due(call + ": STATUS", x.status(), model.status);
        Check.due(call + ": top", x.top(), model.top);
        Check.due(call + ": bottom", x.bottom(), model.bottom);
        MET[model.status]++;
    }

    /** A text comes to the tape, and is read: how many calls that took. */
    private int feedAndRead(int run) {
        boolean isBakery = random.nextInt(3) == 0;
        String text = isBakery ? texts.bakery() : texts.days(men);
        text = random.nextInt(6) == 0 ? texts.slipped(text) : text;
        int calls = 0;
        int ahead = (int) model.feed(" ".repeat(20));
        Check.due("feed of run " + run, x.feed(0x20202020, 0x20202020, 0x20202020, 0x20202020, 0x20202020), ahead);
        for (int from = 0; from < text.length(); from += 20) {
            String twenty = (text.substring(from, Math.min(from + 20, text.length())) + " ".repeat(20)).substring(0, 20);
            int[] n = new int[5];
            for (int i = 0; i < 20; i++) {
                n[i / 4] = n[i / 4] << 8 | twenty.charAt(i);
            }
            Check.due("feed of run " + run, x.feed(n[0], n[1], n[2], n[3], n[4]), model.feed(twenty));
            calls++;
        }
        // Now and then not all of it, or more than there is.
        int n = random.nextInt(12) == 0 ? number() : Math.max(0, ahead + text.length());
        told = (isBakery ? "bakery(" : "days(") + n + ") of " + text;
        got = isBakery ? x.bakery(n) : x.days(n);
        want = isBakery ? model.bakery(n) : model.days(n);
        dueOf(run);
        for (int what = 0; what < 3; what++) {
            Check.due("fault(" + what + ") of " + told, x.fault(what), model.fault(what));
        }
        men = isBakery && want >= 0 ? (int) want : men;
        return calls + 8;
    }

    private int number() {
        return EDGES[random.nextInt(EDGES.length)];
    }

    private int odd(int usual) {
        return random.nextInt(20) == 0 ? number() : usual;
    }

    private int upTo(int most) {
        return random.nextInt(most + 1);
    }

    private int slice() {
        return odd(random.nextBoolean() ? 1 + upTo(29) : 1 + upTo(5));
    }

    private int set() {
        int set = 0;
        for (int i = upTo(random.nextInt(5) == 0 ? 13 : 8); i > 0; i--) {
            set |= 1 << (random.nextBoolean() ? upTo(29) : upTo(9));
        }
        return odd(set);
    }

    private void call(String name, long answer, long due, int... numbers) {
        StringBuilder text = new StringBuilder(name).append('(');
        for (int i = 0; i < numbers.length; i++) {
            text.append(i == 0 ? "" : ", ").append(numbers[i]);
        }
        told = text.append(')').toString();
        got = answer;
        want = due;
    }

    private static long of(boolean answer) {
        return answer ? 1 : 0;
    }

    private void oneCall(int call) {
        if (call < 16) {
            trayCall(call);
        } else if (call < 32) {
            deed(call);
        } else {
            question(call);
        }
    }

    private void trayCall(int call) {
        int tray = odd(upTo(3));
        int place = odd(upTo(7));
        int n = odd(upTo(8));
        int p = odd(1 + upTo(8));
        int q = odd(1 + upTo(29));
        int k = odd(upTo(1));
        int what = odd(upTo(1));
        switch (call) {
            case 0:
            case 1: {
                int sort = odd(upTo(2));
                int many = random.nextInt(4) == 0 ? number() : 4 + upTo(20);
                call("tray", of(x.tray(tray, sort, many)), model.tray(tray, sort, many), tray, sort, many);
                break;
            }
            case 2:
            case 3:
            case 4:
            case 5: {
                int v = odd(1 + upTo(15));
                call("write", of(x.write(tray, place, v)), model.write(tray, place, v), tray, place, v);
                break;
            }
            case 6:
            case 7:
                call("read", x.read(tray, place), model.read(tray, place), tray, place);
                break;
            case 8:
            case 9: {
                n = random.nextInt(6) == 0 ? -1 : n;
                int to = odd(upTo(3));
                int j = odd(upTo(5));
                call("pour", of(x.pour(tray, place, to, j, n)), model.pour(tray, place, to, j, n), tray, place, to, j, n);
                break;
            }
            case 10:
                n = odd(upTo(30));
                call("copyStore", x.copyStore(tray, n), model.copyStore(tray, n), tray, n);
                break;
            case 11:
            case 12:
                call("slips", x.slips(tray, n, p, q), model.slips(tray, n, p, q), tray, n, p, q);
                break;
            default:
                n = odd(1 + upTo(1));
                call("slipAt", x.slipAt(tray, n, p, q, k, what), model.slipAt(tray, n, p, q, k, what), tray, n, p, q, k, what);
        }
    }

    private void deed(int call) {
        int man = odd(upTo(Math.max(1, men)));
        int slice = slice();
        int p = odd(1 + upTo(random.nextInt(5) == 0 ? 98 : 8));
        int q = odd(1 + upTo(29));
        int[] so = CUTS[random.nextInt(CUTS.length)];
        switch (call) {
            case 16: {
                int n = odd(1 + upTo(5));
                call("bake", x.bake(n), model.bake(n), n);
                break;
            }
            case 17:
            case 18: {
                int a = odd(so[1]);
                int b = odd(so[2]);
                call("cut", x.cut(so[0], a, b), model.cut(so[0], a, b), so[0], a, b);
                break;
            }
            case 19:
            case 20: {
                int by = odd(2 + upTo(3));
                call("split", x.split(slice, by), model.split(slice, by), slice, by);
                break;
            }
            case 21:
            case 22:
                call("give", x.give(man, slice), model.give(man, slice), man, slice);
                break;
            case 23:
                call("take", x.take(man, slice), model.take(man, slice), man, slice);
                break;
            case 24:
                call("owe", of(x.owe(man, p, q)), model.owe(man, p, q), man, p, q);
                break;
            case 25:
                call("come", x.come(p, q), model.come(p, q), p, q);
                break;
            case 26: {
                boolean is = random.nextBoolean();
                call("learn", of(x.learn(slice, is)), model.learn(slice, is), slice, is ? 1 : 0);
                break;
            }
            case 27: {
                int odds = odd(upTo(16));
                call("rule", of(x.rule(odds)), model.rule(odds), odds);
                break;
            }
            case 28:
            case 29: {
                int seed = odd(upTo(9_999));
                call("live", x.live(seed), model.live(seed), seed);
                break;
            }
            case 30:
                call("mark", x.mark(), model.mark());
                break;
            default:
                call("back", x.back(), model.back());
        }
    }

    private void question(int call) {
        int man = odd(upTo(Math.max(1, men)));
        int p = odd(1 + upTo(random.nextInt(5) == 0 ? 98 : 8));
        int q = odd(1 + upTo(29));
        int k = odd(upTo(5));
        int slice = slice();
        int what = odd(upTo(6));
        if (call < 44) {
            shareQuestion(call, p, q, k, slice);
            return;
        }
        switch (call) {
            case 44: call("many", x.many(what), model.many(what), what); break;
            case 45: call("store", x.store(slice), model.store(slice), slice); break;
            case 46: call("man", x.man(man, what % 3), model.man(man, what % 3), man, what % 3); break;
            case 47: call("has", of(x.has(man)), model.has(man), man); break;
            case 48: call("lacks", of(x.lacks(man)), model.lacks(man), man); break;
            case 49: call("worth", of(x.worth()), model.worth()); break;
            case 50: call("lived", x.lived(what), model.lived(what), what); break;
            case 51: {
                int set = set();
                call("plate", x.plate(set), model.plate(set), set);
                break;
            }
            case 52: {
                int set = set();
                call("plateMove", x.plateMove(set), model.plateMove(set), set);
                break;
            }
            case 53: {
                int set = set();
                call("luck", of(x.luck(set, k, p, q)), model.luck(set, k, p, q), set, k, p, q);
                break;
            }
            case 54: {
                int n = odd(upTo(12));
                call("burnt", of(x.burnt(n, k)), model.burnt(n, k), n, k);
                break;
            }
            default: {
                int seed = odd(upTo(9_999));
                int many = odd(1 + upTo(4));
                call("mean", of(x.mean(seed, many)), model.mean(seed, many), seed, many);
            }
        }
    }

    private void shareQuestion(int call, int p, int q, int k, int slice) {
        int man = odd(upTo(Math.max(1, men)));
        switch (call) {
            case 32: call("fewest", x.fewest(p, q), model.fewest(p, q), p, q); break;
            case 33: call("fewestAt", x.fewestAt(p, q, k), model.fewestAt(p, q, k), p, q, k); break;
            case 34: call("ways", x.ways(p, q, k), model.ways(p, q, k), p, q, k); break;
            case 35: {
                call("oddsThat", of(x.oddsThat(p, q, k, slice)), model.oddsThat(p, q, k, slice), p, q, k, slice);
                break;
            }
            case 36: call("ask", x.ask(p, q, k), model.ask(p, q, k), p, q, k); break;
            case 37: call("kindestAt", x.kindestAt(p, q, k), model.kindestAt(p, q, k), p, q, k); break;
            case 38: call("greedyAt", x.greedyAt(p, q, k), model.greedyAt(p, q, k), p, q, k); break;
            case 39: call("reach", x.reach(slice), model.reach(slice), slice); break;
            case 40: call("reachAt", x.reachAt(slice, k), model.reachAt(slice, k), slice, k); break;
            case 41: call("fill", x.fill(man), model.fill(man), man); break;
            default: call("fillAt", x.fillAt(man, k), model.fillAt(man, k), man, k);
        }
    }
}
