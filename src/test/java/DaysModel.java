import java.util.ArrayList;
import java.util.Arrays;
import java.util.List;
import java.util.Random;
import java.util.Set;
import java.util.TreeSet;

/** A BAKERY and DAYS at random, lived as the document tells it, by lists and sets. */
final class DaysModel {
    static final long LOAF = 2329089562800L;
    private static final String[] NAMES = {"a", "bek", "odd", "ends", "hh", "zzzzzzzz"};

    /** A STEP; a block has its own. */
    private static final class Step {
        private String text = "";
        private String kind = "";
        private final int[] numbers = new int[3];
        private char compares = ' ';
        private final List<Step> block = new ArrayList<>();
    }

    /** The end by stop or by the 300 STEPS. */
    private static final class Over extends RuntimeException {
        private static final long serialVersionUID = 1;
    }

    private int odds;
    private int[] stock = new int[31];
    private final List<Set<Integer>> having = new ArrayList<>();
    private final List<int[]> due = new ArrayList<>();
    private List<Step> days = new ArrayList<>();
    private int written;
    private int cutsInAll;
    private int draw;
    int steps;
    private int missed;
    private int cuts;
    private int given;
    private int baked;
    private int left;

    static DaysModel atRandom(Random random) {
        DaysModel model = new DaysModel();
        model.odds = random.nextInt(17);
        boolean full = random.nextInt(4) == 0;
        for (int slice = 1; slice <= 30; slice++) {
            int lot = random.nextInt(3);
            model.stock[slice] = lot == 0 ? 0 : full ? 90 + random.nextInt(10) : 1 + random.nextInt(4);
        }
        int men = random.nextInt(7);
        for (int man = 0; man < men; man++) {
            model.due.add(new int[] {1 + random.nextInt(99) % (1 + random.nextInt(99)), 1 + random.nextInt(30)});
            Set<Integer> his = new TreeSet<>();
            for (int i = random.nextInt(4); i > 0; i--) {
                his.add(1 + random.nextInt(30));
            }
            model.having.add(his);
        }
        do {
            model.written = 0;
            model.days = model.randomBlock(random, 0);
        } while (model.daysText().length() > 300 || model.written > 30);
        return model;
    }

    private List<Step> randomBlock(Random random, int depth) {
        List<Step> block = new ArrayList<>();
        int count = random.nextInt(depth == 0 ? 9 : 4);
        for (int i = 0; i < count; i++) {
            written++;
            block.add(randomStep(random, depth));
        }
        return block;
    }

    private Step randomStep(Random random, int depth) {
        String[] kinds = due.isEmpty() ? new String[] {"cut", "split", "bake", "any", "when holds", "loop", "stop"}
                : new String[] {"cut", "cut", "split", "give", "take", "bake", "any", "any", "when even", "when holds",
                    "when lacks", "loop", "loop", "stop"};
        Step step = new Step();
        do {
            step.kind = kinds[random.nextInt(kinds.length)];
        } while (depth == 3 && (step.kind.startsWith("when") || step.kind.equals("loop"))
                || step.kind.equals("stop") && random.nextInt(3) > 0);
        int[] n = step.numbers;
        n[0] = 1 + random.nextInt(30);
        step.compares = "<>=".charAt(random.nextInt(3));
        int man = due.isEmpty() ? 0 : random.nextInt(due.size());
        switch (step.kind) {
            case "cut":
                randomCut(n, random);
                step.text = "cut " + n[0] + " " + n[1] + " " + n[2] + ";";
                break;
            case "split":
                n[0] = 1 + random.nextInt(random.nextBoolean() ? 6 : 30);
                n[1] = 2 + random.nextInt(random.nextBoolean() ? 4 : 29);
                step.text = "split " + n[0] + " " + n[1] + ";";
                break;
            case "give":
            case "take":
                n[1] = n[0];
                n[0] = man;
                step.text = step.kind + " " + NAMES[man] + " " + n[1] + ";";
                break;
            case "bake":
                n[0] = 1 + random.nextInt(9);
                step.text = "bake " + n[0] + ";";
                break;
            case "when even":
                n[0] = man;
                step.text = "when even " + NAMES[man] + ";";
                break;
            case "when holds":
                n[2] = random.nextInt(4) == 0 ? random.nextInt(100) : random.nextInt(4);
                step.text = "when holds " + n[0] + step.compares + n[2] + ";";
                break;
            case "when lacks":
                n[0] = man;
                n[2] = random.nextInt(4) == 0 ? random.nextInt(100) : random.nextInt(3);
                step.text = "when lacks " + NAMES[man] + " " + step.compares + " " + n[2] + ";";
                break;
            case "loop":
                n[0] = 1 + random.nextInt(random.nextInt(3) == 0 ? 99 : 5);
                step.text = "loop " + n[0] + ";";
                break;
            default:
                step.text = step.kind + ";";
        }
        if (step.kind.startsWith("when") || step.kind.equals("loop")) {
            step.block.addAll(randomBlock(random, depth + 1));
            StringBuilder text = new StringBuilder(step.text);
            step.block.forEach(inner -> text.append(inner.text));
            step.text = text.append("end;").toString();
        }
        return step;
    }

    private static void randomCut(int[] n, Random random) {
        int[][] so = {{1, 2, 2}, {2, 3, 6}, {2, 4, 4}, {3, 4, 12}, {4, 5, 20}, {4, 6, 12}, {6, 9, 18}, {5, 6, 30},
            {12, 20, 30}, {10, 15, 30}};
        for (int i = 0; i < 3; i++) {
            n[i] = 1 + random.nextInt(30);
        }
        if (random.nextInt(5) > 0) {
            System.arraycopy(so[random.nextInt(so.length)], 0, n, 0, 3);
        }
    }

    String bakeryText() {
        StringBuilder text = new StringBuilder("odds " + odds + ";");
        for (int slice = 1; slice <= 30; slice++) {
            if (stock[slice] > 0) {
                text.append("store ").append(slice).append(" times ").append(stock[slice]).append(';');
            }
        }
        for (int man = 0; man < due.size(); man++) {
            text.append("man ").append(NAMES[man]).append(" due ").append(due.get(man)[0]);
            text.append(" by ").append(due.get(man)[1]).append(" has");
            having.get(man).forEach(slice -> text.append(' ').append(slice));
            text.append(';');
        }
        return text.toString();
    }

    String daysText() {
        StringBuilder text = new StringBuilder();
        days.forEach(step -> text.append(step.text));
        return text.toString();
    }

    DaysModel copy() {
        DaysModel copy = new DaysModel();
        copy.odds = odds;
        copy.stock = stock.clone();
        having.forEach(his -> copy.having.add(new TreeSet<>(his)));
        copy.due.addAll(due);
        copy.days = days;
        return copy;
    }

    void live(int seed) {
        draw = seed;
        steps = 0;
        missed = 0;
        cuts = 0;
        given = 0;
        baked = 0;
        left = 0;
        try {
            live(days);
        } catch (Over over) {
            // LIVED to its end
        }
    }

    private void live(List<Step> block) {
        for (Step step : block) {
            if (steps == 300) {
                left = 1;
                throw new Over();
            }
            steps++;
            int[] n = step.numbers;
            switch (step.kind) {
                case "stop":
                    throw new Over();
                case "loop":
                    for (int i = 0; i < n[0]; i++) {
                        live(step.block);
                    }
                    break;
                case "when even":
                    liveWhen(step, lacks(n[0]) == 0);
                    break;
                case "when holds":
                    liveWhen(step, compares(stock[n[0]], step.compares, n[2]));
                    break;
                case "when lacks":
                    liveWhen(step, compares(lacks(n[0]), step.compares, n[2] * LOAF));
                    break;
                default:
                    missed += done(step.kind, n) ? 0 : 1;
            }
        }
    }

    private void liveWhen(Step step, boolean is) {
        if (is) {
            live(step.block);
        }
    }

    private static boolean compares(long a, char sign, long b) {
        int compared = Long.compare(a, b);
        return sign == '<' ? compared < 0 : sign == '>' ? compared > 0 : compared == 0;
    }

    private boolean done(String kind, int[] n) {
        switch (kind) {
            case "cut":
                return LOAF / n[0] == LOAF / n[1] + LOAF / n[2] && parted(n[0], n[1], n[2]);
            case "split":
                return isSplit(n[0], n[1]);
            case "give":
                return isGiven(n[0], n[1]);
            case "take":
                if (stock[n[1]] == 99 || !having.get(n[0]).remove(n[1])) {
                    return false;
                }
                stock[n[1]]++;
                return true;
            case "bake":
                if (stock[1] + n[0] > 99) {
                    return false;
                }
                stock[1] += n[0];
                baked += n[0];
                return true;
            default:
                if (due.isEmpty()) {
                    return false;
                }
                int man = draw(due.size());
                int slice = draw(30) + 1;
                return draw(16) < odds ? isSplit(slice, 2) : isGiven(man, slice);
        }
    }

    private boolean isSplit(int slice, int by) {
        int[] parts = new int[by];
        Arrays.fill(parts, slice * by);
        return slice * by <= 30 && parted(slice, parts);
    }

    private boolean parted(int slice, int... parts) {
        int[] next = stock.clone();
        next[slice]--;
        for (int part : parts) {
            next[part]++;
        }
        if (stock[slice] == 0 || Arrays.stream(next).max().getAsInt() > 99) {
            return false;
        }
        stock = next;
        cuts++;
        cutsInAll++;
        return true;
    }

    private boolean isGiven(int man, int slice) {
        if (stock[slice] == 0 || !having.get(man).add(slice)) {
            return false;
        }
        stock[slice]--;
        given++;
        return true;
    }

    private int draw(int n) {
        draw = (draw * 2971 + 10993) & 65535;
        return (draw >> 3) % n;
    }

    private long holds(int man) {
        return having.get(man).stream().mapToLong(slice -> LOAF / slice).sum();
    }

    private long lacks(int man) {
        return due.get(man)[0] * (LOAF / due.get(man)[1]) - holds(man);
    }

    long holdings() {
        long all = 0;
        for (int man = 0; man < due.size(); man++) {
            all += holds(man);
        }
        return all;
    }

    String lived() {
        return List.of(missed, cuts, given, baked, left).toString();
    }

    String inShort() {
        StringBuilder all = new StringBuilder();
        for (int slice = 1; slice <= 30; slice++) {
            all.append(stock[slice]).append(' ');
        }
        for (Set<Integer> his : having) {
            all.append(Check.set(his.stream().mapToInt(Integer::intValue).toArray())).append(' ');
        }
        return all.append(cutsInAll).toString();
    }
}
