/** What all tests share: answers are compared, texts are fed. */
final class Check {
    private static int wrong = 0;
    private static int made = 0;

    private Check() {
    }

    static void due(String call, long got, long want) {
        made++;
        if (got != want) {
            wrong++;
            System.out.println(call + " answered " + got + ", due is " + want);
        }
    }

    static void due(String call, boolean got, boolean want) {
        due(call, got ? 1 : 0, want ? 1 : 0);
    }

    static void due(String call, String got, String want) {
        made++;
        if (!got.equals(want)) {
            wrong++;
            System.out.println(call + " answered " + got + ", due is " + want);
        }
    }

    /** A call that answers, with STATUS 0. */
    static void fine(BreadScribes x, String call, long got, long want) {
        due(call, got, want);
        due(call + ": STATUS", x.status(), 0);
    }

    static void fine(BreadScribes x, String call, boolean got) {
        fine(x, call, got ? 1 : 0, 1);
    }

    /** A call that tells a FRACTION. */
    static void fraction(BreadScribes x, String call, boolean got, long top, long bottom) {
        fine(x, call, got);
        due(call + ": top", x.top(), top);
        due(call + ": bottom", x.bottom(), bottom);
    }

    /** A call with another STATUS than 0. */
    static void refused(BreadScribes x, String call, long got, int status) {
        due(call, got, BreadScribes.NONE);
        due(call + ": STATUS", x.status(), status);
    }

    static void refused(BreadScribes x, String call, boolean got, int status) {
        due(call, got, false);
        due(call + ": STATUS", x.status(), status);
    }

    /** Feeds a text, its last twenty bytes filled up with blanks: how many bytes the text has. */
    static int feed(BreadScribes x, String text) {
        for (int from = 0; from < text.length(); from += 20) {
            int[] fours = new int[5];
            for (int i = 0; i < 20; i++) {
                int c = from + i < text.length() ? text.charAt(from + i) : ' ';
                fours[i / 4] = fours[i / 4] << 8 | c;
            }
            x.feed(fours[0], fours[1], fours[2], fours[3], fours[4]);
        }
        return text.length();
    }

    static int bakery(BreadScribes x, String text) {
        return x.bakery(feed(x, text));
    }

    static int days(BreadScribes x, String text) {
        return x.days(feed(x, text));
    }

    /** A new object with such a BAKERY. */
    static BreadScribes with(String text) {
        BreadScribes x = new BreadScribes();
        bakery(x, text);
        due("bakery " + text + ": STATUS", x.status(), 0);
        return x;
    }

    /** A new object with such a BAKERY, such DAYS. */
    static BreadScribes with(String text, String days) {
        BreadScribes x = with(text);
        days(x, days);
        due("days " + days + ": STATUS", x.status(), 0);
        return x;
    }

    /** Where a text has ^, a FAULT is due; the ^ itself is no part of the text. */
    static void faulty(BreadScribes x, boolean isBakery, int fault, String marked) {
        int place = marked.indexOf('^');
        String text = marked.substring(0, place) + marked.substring(place + 1);
        String call = (isBakery ? "bakery " : "days ") + marked;
        refused(x, call, isBakery ? bakery(x, text) : days(x, text), 10);
        due(call + ": fault(0)", x.fault(0), fault);
        due(call + ": fault(1)", x.fault(1), place);
    }

    /** The set with these SLICES in it. */
    static int set(int... slices) {
        int set = 0;
        for (int slice : slices) {
            set |= 1 << (slice - 1);
        }
        return set;
    }

    /** All that is told of the BAKERY, the latest live(), the FRACTION; it changes STATUS alone. */
    static String all(BreadScribes x) {
        StringBuilder all = new StringBuilder();
        all.append(x.top()).append('/').append(x.bottom()).append(" fault ");
        all.append(x.fault(0)).append(' ').append(x.fault(1)).append(" many");
        for (int what = 0; what <= 6; what++) {
            all.append(' ').append(x.many(what));
        }
        all.append(" store");
        for (int slice = 1; slice <= 30; slice++) {
            all.append(' ').append(x.store(slice));
        }
        int men = x.many(0);
        for (int man = 0; man < men; man++) {
            all.append(" man ").append(x.man(man, 0)).append('/').append(x.man(man, 1));
            all.append(' ').append(x.man(man, 2));
        }
        all.append(" lived");
        for (int what = 0; what <= 4; what++) {
            all.append(' ').append(x.lived(what));
        }
        return all.toString();
    }

    static void end(String name) {
        System.out.println(name + ": " + made + " answers, " + wrong + " not as due");
        if (wrong != 0 || made == 0) {
            System.exit(1);
        }
    }
}
