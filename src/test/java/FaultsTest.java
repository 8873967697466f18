import java.util.ArrayList;
import java.util.Collections;
import java.util.List;
import java.util.Random;

/** Promises 10 to 12: the FAULTS of texts at random are those that TextModel finds in its own way. */
public final class FaultsTest {
    private static final List<String> NAMES = List.of("a", "bek", "odd");
    private static final String MEN = "man a due 1 by 1; man bek due 1 by 1; man odd due 1 by 1;";
    private static final int[] BAKERY_FAULTS = new int[8];
    private static final int[] DAYS_FAULTS = new int[8];

    private FaultsTest() {
    }

    public static void main(String[] args) {
        Random random = new Random(21);
        RandomTexts texts = new RandomTexts(random);
        for (int i = 0; i < 10_000; i++) {
            String bakery = random.nextInt(8) == 0 ? texts.anyTokens() : many(texts, random);
            bakeryDue(random.nextInt(5) == 0 ? bakery : texts.slipped(bakery));
            String days = random.nextInt(8) == 0 ? texts.anyTokens() : texts.days(3);
            daysDue(random.nextInt(5) == 0 ? days : texts.slipped(days));
            daysDue(days + "any;".repeat(random.nextInt(30)));
            int deep = 1 + random.nextInt(4);
            daysDue(texts.slipped("loop 2;".repeat(deep) + days + "end;".repeat(deep)));
        }
        for (int fault = 0; fault <= 7; fault++) {
            Check.due("BAKERIES with FAULT " + fault + ", a dozen at least", BAKERY_FAULTS[fault] > 12, fault != 7);
            Check.due("DAYS with FAULT " + fault + ", a dozen at least", DAYS_FAULTS[fault] > 12, fault != 5);
        }
        Check.end("FaultsTest");
    }

    /** Two BAKERIES' PARTS, told one among the others. */
    private static String many(RandomTexts texts, Random random) {
        String text = texts.bakery() + (random.nextInt(3) == 0 ? texts.bakery() : "");
        List<String> parts = new ArrayList<>(List.of(text.split("(?<=;)")));
        if (random.nextBoolean()) {
            Collections.shuffle(parts, random);
        }
        return String.join("", parts);
    }

    private static void bakeryDue(String text) {
        String cut = text.substring(0, Math.min(900, text.length()));
        BreadScribes x = new BreadScribes();
        TextModel model = TextModel.bakery(cut);
        long men = model.kinds.chars().filter(c -> c == 'M').count();
        due(x, "bakery " + cut, Check.bakery(x, cut), model, men);
        BAKERY_FAULTS[model.fault]++;
    }

    private static void daysDue(String text) {
        String cut = text.substring(0, Math.min(300, text.length()));
        BreadScribes x = Check.with(MEN);
        TextModel model = TextModel.days(cut, NAMES);
        long steps = model.kinds.chars().filter(c -> "CPGAEYWRX".indexOf(c) >= 0).count();
        due(x, "days " + cut, Check.days(x, cut), model, steps);
        DAYS_FAULTS[model.fault]++;
    }

    private static void due(BreadScribes x, String call, int got, TextModel model, long many) {
        Check.due(call, got, model.fault == 0 ? many : BreadScribes.NONE);
        Check.due(call + ": STATUS", x.status(), model.fault == 0 ? 0 : 10);
        Check.due(call + ": fault(0)", x.fault(0), model.fault);
        Check.due(call + ": fault(1)", x.fault(1), model.place);
    }
}
