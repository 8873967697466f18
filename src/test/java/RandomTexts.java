import java.util.ArrayList;
import java.util.List;
import java.util.Random;

/** BAKERIES and DAYS at random, most of them right, some with a slip in them. */
final class RandomTexts {
    private static final String[] NAMES = {"a", "bek", "odd", "ends", "hh", "zzzzzzzz", "q"};
    private static final String[] TOKENS = {"odds", "store", "times", "man", "due", "by", "has", "known", "cut", "split",
        "give", "take", "bake", "any", "when", "even", "holds", "lacks", "loop", "end", "stop", "a", "bek", "zz",
        "abcdefgh", "abcdefghi", ";", ";", ";", "<", ">", "=", "0", "1", "2", "9", "10", "16", "17", "30", "31", "99", "100",
        "0003", "12345", "!", "A", "loop 3;", "when even a;", "end;"};

    private final Random random;

    RandomTexts(Random random) {
        this.random = random;
    }

    private int from(int least, int most) {
        return least + random.nextInt(most - least + 1);
    }

    private String slices() {
        StringBuilder text = new StringBuilder();
        for (int slice = 1; slice <= 30; slice++) {
            text.append(random.nextInt(3) == 0 ? " " + slice : "");
        }
        return text.toString();
    }

    private String few() {
        return random.nextInt(3) == 0 ? "" : " has " + from(1, 10) + " " + from(11, 20) + (random.nextBoolean() ? " 24" : "");
    }

    String bakery() {
        List<String> parts = new ArrayList<>();
        int men = random.nextInt(7);
        for (int man = 0; man < men; man++) {
            int p = from(1, random.nextInt(5) == 0 ? 99 : 9);
            parts.add("man " + NAMES[man] + " due " + p + " by " + from(random.nextBoolean() ? 1 : 2, 30) + few() + ";");
        }
        boolean full = random.nextInt(4) == 0;
        for (int slice = 1; slice <= 30; slice++) {
            int many = random.nextInt(3) > 0 ? 0 : full ? from(95, 99) : from(1, 3);
            if (many > 0) {
                parts.add("store " + slice + (many == 1 ? ";" : " times " + many + ";"));
            }
        }
        if (random.nextBoolean()) {
            parts.add("odds " + from(0, 16) + ";");
        }
        if (random.nextInt(3) == 0) {
            parts.add("known" + slices() + ";");
        }
        return joined(parts);
    }

    private String joined(List<String> parts) {
        StringBuilder text = new StringBuilder();
        for (String part : parts) {
            text.append(part).append(random.nextInt(4) == 0 ? " " : random.nextInt(9) == 0 ? "\n" : "");
        }
        return text.toString();
    }

    String days(int men) {
        String text;
        do {
            text = block(men, 0);
        } while (text.length() > 300);
        return text;
    }

    private String block(int men, int depth) {
        List<String> steps = new ArrayList<>();
        for (int i = random.nextInt(depth == 0 ? 12 : 4); i > 0; i--) {
            steps.add(step(men, depth));
        }
        return joined(steps);
    }

    private String step(int men, int depth) {
        String name = NAMES[random.nextInt(Math.max(1, men))];
        int slice = from(1, random.nextBoolean() ? 30 : 6);
        switch (random.nextInt(depth > 2 ? 12 : 17)) {
            case 0:
                return cut() + ";";
            case 1:
            case 2:
                return "split " + slice + " " + from(2, random.nextInt(4) == 0 ? 30 : 4) + ";";
            case 3:
            case 4:
                return men > 0 ? "give " + name + " " + slice + ";" : "any;";
            case 5:
                return men > 0 ? "take " + name + " " + slice + ";" : "any;";
            case 6:
            case 7:
                return "bake " + from(1, 9) + ";";
            case 8:
                return random.nextInt(3) == 0 ? "stop;" : cut() + ";";
            case 9:
            case 10:
            case 11:
                return "any;";
            case 12:
                return men > 0 ? "when even " + name + ";" + block(men, depth + 1) + "end;" : "any;";
            case 13:
                return "when holds " + slice + compares() + block(men, depth + 1) + "end;";
            case 14:
                return men > 0 ? "when lacks " + name + compares() + block(men, depth + 1) + "end;" : "any;";
            default:
                return "loop " + from(1, random.nextInt(3) == 0 ? 99 : 4) + ";" + block(men, depth + 1) + "end;";
        }
    }

    private String compares() {
        return " " + "<>=".charAt(random.nextInt(3)) + " " + from(0, random.nextInt(3) == 0 ? 99 : 2) + ";";
    }

    private String cut() {
        int[][] so = {{1, 2, 2}, {2, 3, 6}, {2, 4, 4}, {3, 4, 12}, {4, 5, 20}, {4, 6, 12}, {6, 9, 18}, {5, 6, 30},
            {12, 20, 30}, {10, 15, 30}, {3, 4, 11}, {6, 30, 29}, {2, 2, 2}};
        int[] one = so[random.nextInt(so.length)];
        return "cut " + one[0] + " " + one[1] + " " + one[2];
    }

    /** With a TOKEN or a byte less, more, or another one, here and there. */
    String slipped(String text) {
        StringBuilder slipped = new StringBuilder(text);
        for (int i = from(1, 2); i > 0; i--) {
            int at = random.nextInt(slipped.length() + 1);
            int end = Math.min(slipped.length(), at + random.nextInt(3));
            switch (random.nextInt(3)) {
                case 0:
                    slipped.delete(at, end);
                    break;
                case 1:
                    slipped.insert(at, " " + TOKENS[random.nextInt(TOKENS.length)] + " ");
                    break;
                default:
                    slipped.replace(at, end, TOKENS[random.nextInt(TOKENS.length)]);
            }
        }
        return slipped.toString();
    }

    /** TOKENS in whatever order. */
    String anyTokens() {
        StringBuilder text = new StringBuilder();
        for (int i = random.nextInt(14); i > 0; i--) {
            text.append(TOKENS[random.nextInt(TOKENS.length)]).append(random.nextInt(4) == 0 ? "" : " ");
        }
        return text.toString();
    }
}
