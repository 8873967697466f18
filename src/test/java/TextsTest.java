/** Promises 9 to 12: the tape, BAKERIES, DAYS and their FAULTS. */
public final class TextsTest {
    private static final String MEN = "man a due 1 by 2; man b due 1 by 2; man c due 1 by 2; "
            + "man d due 1 by 2; man e due 1 by 2; man f due 1 by 2;";

    private TextsTest() {
    }

    public static void main(String[] args) {
        feed();
        tape();
        bakeriesThatAreTaken();
        bakeryFaults();
        bakeryNumbers();
        bakeryNames();
        leastKindOfOneToken();
        firstAlongTheText();
        textsCutShort();
        bakeryKeepsOldOne();
        bakeryReplaces();
        bytesOfNoToken();
        daysThatAreTaken();
        daysFaults();
        daysNumbers();
        daysLimits();
        daysKeepOldOnes();
        faultTells();
        Check.end("TextsTest");
    }

    private static void feed() {
        BreadScribes x = new BreadScribes();
        x.store(0);
        for (int i = 1; i <= 45; i++) {
            Check.due("feed " + i, x.feed(0, 0, 0, 0, 0), 20 * i);
        }
        Check.due("feed 46", x.feed(0, 0, 0, 0, 0), -1);
        Check.due("status() behind feed", x.status(), 2);
        Check.refused(x, "bakery(901)", x.bakery(901), 5);
        Check.due("feed behind STATUS 5", x.feed(0, 0, 0, 0, 0), -1);
        Check.refused(x, "bakery(900)", x.bakery(900), 10);
        Check.due("feed behind STATUS 10", x.feed(0, 0, 0, 0, 0), 20);
        // The highest byte of each int is first: "odds" "   3" ";   "
        BreadScribes y = new BreadScribes();
        y.feed(0x6f646473, 0x20202033, 0x3b202020, 0x0a0a0a0a, 0x20202020);
        Check.fine(y, "bakery(20)", y.bakery(20), 0);
        Check.fine(y, "many(3)", y.many(3), 3);
    }

    private static void tape() {
        BreadScribes x = new BreadScribes();
        int n = Check.feed(x, "odds 7; odds 8; odds 9;");
        Check.refused(x, "bakery(-1)", x.bakery(-1), 5);
        Check.refused(x, "bakery(41)", x.bakery(41), 5);
        Check.refused(x, "bakery(min)", x.bakery(Integer.MIN_VALUE), 5);
        Check.refused(x, "days(41)", x.days(41), 5);
        Check.refused(x, "days(-1)", x.days(-1), 5);
        Check.due("the tape behind STATUS 5", x.feed(0, 0, 0, 0, 0), 60);
        Check.fine(x, "bakery(7) of " + n, x.bakery(7), 0);
        Check.fine(x, "many(3)", x.many(3), 7);
        Check.refused(x, "bakery(1) of an empty tape", x.bakery(1), 5);
        Check.fine(x, "bakery(0)", x.bakery(0), 0);
        Check.fine(x, "many(3)", x.many(3), 4);
        Check.feed(x, "any;");
        Check.fine(x, "days(0)", x.days(0), 0);
        Check.due("the tape behind days(0)", x.feed(0, 0, 0, 0, 0), 20);
        Check.refused(x, "days(20) of no TOKEN", x.days(20), 10);
        Check.due("the tape behind a FAULT of days", x.feed(0, 0, 0, 0, 0), 20);
    }

    private static void bakeriesThatAreTaken() {
        BreadScribes x = new BreadScribes();
        Check.fine(x, "all PARTS", Check.bakery(x, "odds 16; store 30 times 99; store 1; store 7 times 0;"
                + "man zz due 99 by 30 has 30 1 2; man abcdefgh due 1 by 1 has; man q due 50 by 3; known 1 30;"), 3);
        Check.fine(x, "many(0)", x.many(0), 3);
        Check.fine(x, "many(1)", x.many(1), 100);
        Check.fine(x, "many(2)", x.many(2), 2);
        Check.fine(x, "many(3)", x.many(3), 16);
        Check.fine(x, "many(4)", x.many(4), Check.set(1, 30));
        Check.fine(x, "store(30)", x.store(30), 99);
        Check.fine(x, "store(1)", x.store(1), 1);
        Check.fine(x, "store(7)", x.store(7), 0);
        Check.fine(x, "man(0, 0)", x.man(0, 0), 99);
        Check.fine(x, "man(0, 1)", x.man(0, 1), 30);
        Check.fine(x, "man(0, 2)", x.man(0, 2), Check.set(1, 2, 30));
        Check.fine(x, "man(1, 2)", x.man(1, 2), 0);
        Check.fine(x, "man(2, 0)", x.man(2, 0), 50);
        Check.fine(x, "blanks", Check.bakery(x, " \n  known\n;\nodds\n0002 ;  \n"), 0);
        Check.fine(x, "many(4)", x.many(4), 0);
        Check.fine(x, "many(3)", x.many(3), 2);
        Check.fine(x, "no blanks", Check.bakery(x, "odds9;store3times4;man x due1by2has3 4;known5;"), 1);
        Check.fine(x, "many(3)", x.many(3), 9);
        Check.fine(x, "store(3)", x.store(3), 4);
        Check.fine(x, "man(0, 2)", x.man(0, 2), Check.set(3, 4));
        Check.fine(x, "many(4)", x.many(4), Check.set(5));
        Check.fine(x, "an empty one", Check.bakery(x, ""), 0);
        Check.fine(x, "many(3) without odds", x.many(3), 4);
        Check.fine(x, "many(4) without known", x.many(4), (1 << 30) - 1);
        Check.fine(x, "blanks alone", Check.bakery(x, "   \n "), 0);
        Check.fine(x, "six MEN", Check.bakery(x, MEN), 6);
        StringBuilder all = new StringBuilder("known");
        for (int slice = 30; slice >= 1; slice--) {
            all.append(' ').append(slice);
        }
        Check.fine(x, "known all", Check.bakery(x, all + ";"), 0);
        Check.fine(x, "many(4)", x.many(4), (1 << 30) - 1);
        Check.faulty(x, true, 5, all + " ^1;");
        Check.fine(x, "a has all", Check.bakery(x, "man a due 1 by 1 has" + all.substring(5) + ";"), 1);
        Check.fine(x, "man(0, 2)", x.man(0, 2), (1 << 30) - 1);
    }

    private static void bakeryFaults() {
        String[] misplaced = {"^go;", "^;", "^3;", "^odd 3;", "^oddsodds 3;", "odds ^;", "odds ^odds;", "odds 3^",
            "odds 3 ^", "odds 3 ^3;", "odds 3;^;", "odds^", "odds 3; known3^", "store ^;", "store 3 ^4;",
            "store 3 times ^;", "store 3 times 4 ^5;", "store ^times;", "store 3^", "store 3 times^",
            "store 3 times 4^", "man ^3", "man^", "man a^", "man a ^3;", "man a due ^;", "man a due 3 ^;",
            "man a due 3 ^3;", "man a due 3 by ^;", "man a due 3 by ^by;", "man a due 3 by 4 ^5;",
            "man a due 3 by 4 has ^a;", "man a due 3 by 4 has 5^", "man a due 3 by 4^", "man a ^by 3 due 4;",
            "known ^known;", "known 3 ^a;", "known 3 4^", "known^", "^cut 3 4 12;", "^any;", "^end;", "odds 3 ^<",
            "odds ^=", "odds 3 ^>;", "store 3 ^due 4;", "man a due 3 by 4 ^times 5;", "odds 3^a;", "^a3;",
            "man a due 3 by 4 has ^has;"};
        for (String text : misplaced) {
            Check.faulty(new BreadScribes(), true, 2, text);
        }
        Check.faulty(new BreadScribes(), true, 1, "^A");
        Check.faulty(new BreadScribes(), true, 1, "odds ^-3;");
        Check.faulty(new BreadScribes(), true, 1, "odds ^12345;");
        Check.faulty(new BreadScribes(), true, 1, "odds ^00003;");
        Check.faulty(new BreadScribes(), true, 1, "odds 3 ^123456789012345678901234567890");
        Check.faulty(new BreadScribes(), true, 1, "odds ^\t3;");
        Check.faulty(new BreadScribes(), true, 1, "odds ^\r3;");
        Check.faulty(new BreadScribes(), true, 1, "odds 3^, odds 3;");
        Check.faulty(new BreadScribes(), true, 1, "odds 3;^.");
        Check.faulty(new BreadScribes(), true, 1, "man a due 1 by 1^/2;");
        Check.faulty(new BreadScribes(), true, 1, "man ^12345");
        Check.faulty(new BreadScribes(), true, 5, "odds 3; ^odds 99999;");
        Check.faulty(new BreadScribes(), true, 5, "odds 3; ^odds");
        Check.faulty(new BreadScribes(), true, 5, "known; store 1; ^known;");
        Check.faulty(new BreadScribes(), true, 5, "known 4; ^known 4;");
        Check.faulty(new BreadScribes(), true, 5, "known 4 5 ^4;");
        Check.faulty(new BreadScribes(), true, 5, "known 4 5 6 ^5 99");
        Check.faulty(new BreadScribes(), true, 5, "store 3; store ^3;");
        Check.faulty(new BreadScribes(), true, 5, "store 3; store ^3 times 5;");
        Check.faulty(new BreadScribes(), true, 5, "store 3 times 0; store 4; store ^3 times 100;");
        Check.faulty(new BreadScribes(), true, 5, "man a due 1 by 1 has 3 4 ^3;");
        Check.faulty(new BreadScribes(), true, 5, "man a due 1 by 1 has 3; man b due 1 by 1 has 3 ^3 3;");
        Check.faulty(new BreadScribes(), true, 6, MEN + " ^man g due 1 by 2;");
        Check.faulty(new BreadScribes(), true, 6, MEN + " ^man a due 1 by 2;");
        Check.faulty(new BreadScribes(), true, 6, MEN + "odds 3; ^man");
    }

    private static void bakeryNumbers() {
        String[] wrong = {"odds ^17;", "odds ^9999;", "store ^0;", "store ^31;",
            "store 3 times ^100;", "man a due ^0 by 1;", "man a due ^100 by 1;", "man a due 1 by ^0;",
            "man a due 1 by ^31;", "man a due 1 by 1 has ^0;", "man a due 1 by 1 has 30 ^31;", "known ^0;",
            "known 1 2 ^31 1;", "known 1 ^1000 1;", "store 3; store ^33;"};
        for (String text : wrong) {
            Check.faulty(new BreadScribes(), true, 4, text);
        }
        String[] right = {"odds 0;", "odds 16;", "odds 0016;", "store 1;", "store 30;", "store 3 times 0;",
            "store 3 times 99;", "man a due 1 by 1;", "man a due 99 by 30;", "man a due 1 by 1 has 1 30;",
            "known 1 30;", "known 0004;"};
        for (String text : right) {
            Check.with(text);
        }
    }

    private static void bakeryNames() {
        String[] reserved = {"odds", "store", "times", "man", "due", "by", "has", "known", "cut", "split", "give",
            "take", "bake", "any", "when", "even", "holds", "lacks", "loop", "end", "stop"};
        for (String word : reserved) {
            BreadScribes x = new BreadScribes();
            Check.faulty(new BreadScribes(), true, 2, "man ^" + word + " due 1 by 1;");
            Check.fine(x, word + "s", Check.bakery(x, "man " + word + "s due 1 by 1;"), 1);
            Check.fine(x, "x" + word, Check.bakery(x, "man x" + word + " due 1 by 1;"), 1);
        }
        BreadScribes x = new BreadScribes();
        Check.fine(x, "8 letters", Check.bakery(x, "man abcdefgh due 1 by 1;"), 1);
        Check.faulty(new BreadScribes(), true, 2, "man ^abcdefghi due 1 by 1;");
        Check.faulty(new BreadScribes(), true, 2, "man ^abcdefghijklmnopqrstuvwxyz due 1 by 1;");
        Check.faulty(new BreadScribes(), true, 3, "man ahm due 1 by 1; man ^ahm due 1 by 1;");
        Check.faulty(new BreadScribes(), true, 3, "man ahm due 1 by 1; odds 3; man b due 1 by 1; man ^ahm");
        Check.fine(x, "names alike but for a letter", Check.bakery(x,
                "man a due 1 by 1; man aa due 1 by 1; man ab due 1 by 1; man ba due 1 by 1; man zzzzzzzz due 1 by 1;"
                + "man zzzzzzzy due 1 by 1;"), 6);
    }

    /** One TOKEN with several FAULTS has that of the least kind. */
    private static void leastKindOfOneToken() {
        String[] noTokens = {"^12345", "odds 3 ^99999;", "store ^00030;", "man ^10000", "man a due 1 by 1 has 3 ^00003",
            "known 3 ^33333", "odds 16^!", "man ^A due"};
        for (String text : noTokens) {
            Check.faulty(new BreadScribes(), true, 1, text);
        }
        String[] misplaced = {"odds 3 ^17;", "store 3 ^31;", "store 3 times 99 ^100;", "man a due 1 by 1 ^31;",
            "odds 3; store ^odds;", "known; man ^known due", "man a due 1 by 1; man b due ^a by", "known 3 4 ^a 3;",
            MEN + "store ^man", MEN + "odds 3 ^man", "odds ^abcdefghi;"};
        for (String text : misplaced) {
            Check.faulty(new BreadScribes(), true, 2, text);
        }
        String men = "man a due 1 by 2;";
        String[] misplacedSteps = {"cut 3 4 12 ^31;", "split 1 2 ^31;", "give a 3 ^0;", "bake 9 ^10;", "any ^0;", "give ^any 3;",
            "give ^bbbbbbbbb 3;", "when even a ^b;", "any;".repeat(29) + "bake ^bake", "any;".repeat(30) + "^end;",
            "loop 1;loop 1;loop 1; bake ^loop", "loop 1;loop 1;loop 1;any ^when"};
        for (String text : misplacedSteps) {
            Check.faulty(Check.with(men), false, 2, text);
        }
        String[] noTokensOfDays = {"bake ^00001;", "any;".repeat(30) + "^!", "loop 1;loop 1;loop 1;^!", "give ^A 3;",
            "when holds 1 < ^99999;"};
        for (String text : noTokensOfDays) {
            Check.faulty(Check.with(men), false, 1, text);
        }
        Check.faulty(Check.with(men), false, 6, "any;".repeat(27) + "loop 1;loop 1;loop 1;^loop 1;");
        Check.faulty(Check.with(men), false, 7, "any;".repeat(26) + "loop 1;loop 1;loop 1;^loop 1;");
    }

    /** What comes first along the text is told, also if a lesser kind comes behind it. */
    private static void firstAlongTheText() {
        String[] bakeries = {"2 odds ^store !", "3 man a due 1 by 1; man ^a ! 99", "4 odds ^17 !", "4 store ^0; 12345",
            "5 odds 3; ^odds !", "5 known 3 ^3 !", "5 store 3; store ^3 store", "6 " + MEN + "^man a !", "4 known ^31 31",
            "5 known 30 ^30 31", "4 man a due ^0 by 0", "3 man a due 1 by 1; man ^a due 0"};
        for (String text : bakeries) {
            Check.faulty(new BreadScribes(), true, text.charAt(0) - '0', text.substring(2));
        }
        String[] days = {"2 any ^any !", "3 give ^b !", "3 give ^b 31;", "4 cut ^31 31 !", "4 cut 1 ^0 0;", "4 split ^0 1;",
            "6 " + "any;".repeat(30) + "^any !", "7 loop 1;loop 1;loop 1;^loop !", "7 loop 1;loop 1;loop 1;^when x",
            "3 when lacks ^b < 100;", "2 ^end !"};
        for (String text : days) {
            Check.faulty(Check.with("man a due 1 by 2;"), false, text.charAt(0) - '0', text.substring(2));
        }
    }

    /** The text is the first n bytes, whatever comes behind them on the tape. */
    private static void textsCutShort() {
        String text = "odds 12345; man ahmose due 1 by 2;";
        int[][] want = {{0, 0, -1}, {3, 2, 0}, {4, 2, 4}, {5, 2, 5}, {6, 2, 6}, {7, 2, 7}, {8, 4, 5}, {9, 4, 5}, {10, 1, 5},
            {34, 1, 5}, {40, 1, 5}};
        for (int[] one : want) {
            BreadScribes x = new BreadScribes();
            Check.feed(x, text);
            x.bakery(one[0]);
            Check.due("bakery(" + one[0] + ") of " + text + ": fault(0)", x.fault(0), one[1]);
            Check.due("bakery(" + one[0] + ") of " + text + ": fault(1)", x.fault(1), one[2]);
        }
        BreadScribes y = new BreadScribes();
        Check.feed(y, "any; any; bake 12;");
        Check.fine(y, "days(9)", y.days(9), 2);
        Check.feed(y, "any; any; bake 12;");
        Check.refused(y, "days(16), no ; behind bake 1", y.days(16), 10);
        Check.due("fault(1), the text's length", y.fault(1), 16);
        Check.feed(y, "any; loop 3; any; ");
        Check.refused(y, "days(18), no end", y.days(18), 10);
        Check.due("fault(1), the text's length with its blanks", y.fault(1), 18);
    }

    private static void bakeryKeepsOldOne() {
        BreadScribes x = Check.with("odds 8; store 3 times 2; man a due 1 by 2 has 4; known 1 2 3;", "any; any;");
        x.live(1);
        x.worth();
        String ahead = Check.all(x);
        Check.faulty(x, true, 2, "odds 1; store 5; man q due 1 by 1; known 9; ^go");
        Check.due("all behind a FAULT", Check.all(x), ahead.replace("fault 0 -1", "fault 2 44"));
        Check.fine(x, "the DAYS are there", x.live(1), 2);
        Check.faulty(x, false, 2, "any; ^go;");
        Check.fine(x, "the DAYS are there", x.live(1), 2);
    }

    private static void bakeryReplaces() {
        BreadScribes x = Check.with("odds 8; store 2 times 2; man a due 1 by 2 has 4; known 1 2 3;", "any; any;");
        x.split(2, 2);
        Check.fine(x, "many(5)", x.many(5), 1);
        Check.fine(x, "live(0)", x.live(0), 2);
        Check.fine(x, "bakery", Check.bakery(x, "store 4; man b due 2 by 3;"), 1);
        Check.fine(x, "many(1)", x.many(1), 1);
        Check.fine(x, "many(3)", x.many(3), 4);
        Check.fine(x, "many(4)", x.many(4), (1 << 30) - 1);
        Check.fine(x, "many(5)", x.many(5), 0);
        Check.fine(x, "man(0, 0)", x.man(0, 0), 2);
        Check.fine(x, "man(0, 1)", x.man(0, 1), 3);
        Check.fine(x, "man(0, 2)", x.man(0, 2), 0);
        Check.refused(x, "live(0) without DAYS", x.live(0), 8);
        Check.refused(x, "mean(0, 1) without DAYS", x.mean(0, 1), 8);
        // Nothing of the BAKERY ahead of the one ahead comes up again.
        Check.fine(x, "bakery", Check.bakery(x, "store 5;"), 0);
        Check.fine(x, "many(1)", x.many(1), 1);
        Check.fine(x, "many(3)", x.many(3), 4);
        Check.fine(x, "many(4)", x.many(4), (1 << 30) - 1);
        Check.fine(x, "many(5)", x.many(5), 0);
        Check.fine(x, "come(1, 2)", x.come(1, 2), 0);
        Check.fine(x, "man(0, 2)", x.man(0, 2), 0);
        Check.fine(x, "bakery told as it was", Check.bakery(x, "odds 8; store 5; known 3;"), 0);
        Check.fine(x, "bakery told once more", Check.bakery(x, "odds 8; store 5; known 3;"), 0);
    }

    private static void bytesOfNoToken() {
        String tokens = "abcdefghijklmnopqrstuvwxyz0123456789;<>= \n";
        for (int c = 0; c < 256; c++) {
            BreadScribes x = new BreadScribes();
            if (tokens.indexOf(c) < 0) {
                Check.faulty(x, true, 1, "odds 3; ^" + (char) c);
                Check.faulty(x, false, 1, "any; ^" + (char) c);
            } else if (c != ' ' && c != '\n') {
                Check.faulty(x, true, 2, "odds 3; ^" + (char) c);
                Check.faulty(x, false, 2, "any; ^" + (char) c);
            }
        }
    }

    private static void daysThatAreTaken() {
        BreadScribes x = Check.with("man a due 1 by 2; man bb due 1 by 2;");
        Check.fine(x, "none", Check.days(x, ""), 0);
        Check.fine(x, "blanks alone", Check.days(x, " \n"), 0);
        Check.fine(x, "one of each", Check.days(x, "cut 3 4 12; split 1 2; give a 3; take bb 4; bake 5; any; stop;"), 7);
        Check.fine(x, "without blanks", Check.days(x, "cut3 4 12;split1 2;give a3;take bb4;bake5;any;stop;"), 7);
        Check.fine(x, "tests", Check.days(x, "when even a; end; when holds 3 < 5; any; end; when lacks bb > 0; end;"
                + "when holds 1=1;end; when lacks a\n=\n1;end;"), 6);
        Check.fine(x, "three in one another", Check.days(x, "loop 1; when even a; loop 99; any; end; end; end;"
                + "loop 2; loop 2; loop 2; end; any; end; loop 3; end; end;"), 9);
    }

    private static void daysFaults() {
        String men = "man a due 1 by 2; man bb due 1 by 2;";
        String[] misplaced = {"^go;", "^;", "^3", "^odds 3;", "^man a due 1 by 1;", "^end;", "any; ^end;",
            "loop 1; end; ^end;", "loop 1; ^", "when even a; any;^", "loop 1; loop 1; end;^", "loop 1; end^",
            "loop 1; end ^3;", "any^", "any ^3;", "any ^any;", "stop^", "stop ^1;", "cut^", "cut 3^", "cut 3 ^;",
            "cut 3 4 ^;", "cut 3 4 12^", "cut 3 4 12 ^13;", "cut ^a 4 12;", "split ^;",
            "split 1 ^;", "split 1 2 ^3;", "split 1 ^a;", "give ^3 a;", "give a ^;", "give a ^bb;", "give a 3 ^4;",
            "give ^any 3;", "give ^abcdefghi 3;", "take ^3;", "take a ^;", "take a 3 ^a;", "take ^take 3;",
            "take ^zzzzzzzzz 3;", "bake ^;", "bake ^a;", "bake 1 ^2;", "when ^;", "when ^a;", "when ^3;", "when ^any;",
            "when even ^;", "when even ^even;", "when even a ^3;", "when even a ^any;", "when holds ^a < 3;",
            "when holds 3 ^3;", "when holds 3 ^; end;", "when holds 3 < ^=3;", "when holds 3 < ^;",
            "when holds 3 < 3 ^<", "when lacks ^3 < 3;", "when lacks a ^3;", "when lacks a ^;", "when lacks a < ^a;",
            "when lacks a = 3 ^any;", "when ^<", "loop ^;", "loop ^a;", "loop 3 ^4;", "loop 3 ^any;", "loop^",
            "when^", "when holds^", "when lacks^", "when even^", "give^", "give a^", "bake^", "split^", "split 1^"};
        for (String text : misplaced) {
            Check.faulty(Check.with(men), false, 2, text);
        }
        Check.faulty(Check.with(men), false, 1, "cut 3 4 ^, 12;");
        Check.faulty(Check.with(men), false, 1, "loop ^12345;");
        Check.faulty(Check.with(men), false, 1, "any ^Any;");
        Check.faulty(Check.with(men), false, 3, "give ^c 3;");
        Check.faulty(Check.with(men), false, 3, "take ^b 31;");
        Check.faulty(Check.with(men), false, 3, "when even ^aa;");
        Check.faulty(Check.with(men), false, 3, "when lacks ^bbb < 3;");
        Check.faulty(Check.with(men), false, 3, "give ^abcdefgh 3;");
        BreadScribes y = new BreadScribes();
        y.come(1, 2);
        Check.faulty(y, false, 3, "give ^a 3;");
    }

    private static void daysNumbers() {
        String men = "man a due 1 by 2;";
        String[] wrong = {"cut ^0 4 12;", "cut ^31 4 12;", "cut 3 ^0 12;", "cut 3 ^31 12;", "cut 3 4 ^0;",
            "cut 3 4 ^31;", "split ^0 2;", "split ^31 2;", "split 1 ^1;", "split 1 ^31;", "split 1 ^0;",
            "give a ^0;", "give a ^31;", "take a ^0;", "take a ^31;", "bake ^0;", "bake ^10;", "loop ^0;",
            "loop ^100;", "when holds ^0 < 1;", "when holds ^31 < 1;", "when holds 1 < ^100;",
            "when lacks a < ^100;", "loop ^9999;"};
        for (String text : wrong) {
            Check.faulty(Check.with(men), false, 4, text);
        }
        BreadScribes x = Check.with(men);
        Check.fine(x, "least numbers", Check.days(x, "cut 1 1 1; split 1 2; give a 1; take a 1; bake 1; loop 1;"
                + "end; when holds 1 < 0; end; when lacks a < 0; end;"), 8);
        Check.fine(x, "greatest numbers", Check.days(x, "cut 30 30 30; split 30 30; give a 30; take a 30; bake 9;"
                + "loop 99; end; when holds 30 < 99; end; when lacks a < 99; end;"), 8);
    }

    private static void daysLimits() {
        BreadScribes x = Check.with("man a due 1 by 2;");
        String thirty = "any;".repeat(30);
        Check.fine(x, "30 STEPS", Check.days(x, thirty), 30);
        Check.faulty(x, false, 6, thirty + " ^any;");
        Check.faulty(x, false, 6, thirty + " ^loop");
        Check.faulty(x, false, 2, thirty + " ^go;");
        String nested = "loop 1;loop 1;loop 1;";
        String ends = "end;end;end;";
        Check.fine(x, "30 STEPS with ends", Check.days(x, "any;".repeat(27) + nested + ends), 30);
        Check.fine(x, "ends are no STEPS", Check.days(x, (nested + ends).repeat(9)), 27);
        Check.faulty(x, false, 6, nested + "any;".repeat(27) + "^when even a;");
        Check.faulty(x, false, 6, nested + "any;".repeat(27) + "^any;");
        Check.faulty(x, false, 2, nested + "any;".repeat(27) + "end;end;^");
        Check.faulty(x, false, 7, nested + "^loop 1;");
        Check.faulty(x, false, 7, nested + "^when");
        Check.faulty(x, false, 7, nested + "any; end; loop 1; any; ^when even a;");
        Check.faulty(x, false, 7, "when even a; when even a; when even a; ^loop 0;");
        Check.fine(x, "blocks one behind the other", Check.days(x, "loop 1;loop 1;loop 1;end;loop 1;end;end;"
                + "loop 1;loop 1;end;end;end;"), 6);
        Check.feed(x, "any;" + " ".repeat(296));
        Check.fine(x, "a text of 300", x.days(300), 1);
        Check.feed(x, "any;" + " ".repeat(316));
        Check.refused(x, "a text of 301", x.days(301), 5);
        Check.refused(x, "days(320)", x.days(320), 5);
        Check.fine(x, "the tape behind STATUS 5", x.days(4), 1);
        Check.feed(x, " ".repeat(893) + "odds 9;");
        Check.fine(x, "a BAKERY of 900", x.bakery(900), 0);
        Check.fine(x, "many(3)", x.many(3), 9);
    }

    private static void daysKeepOldOnes() {
        BreadScribes x = Check.with("man a due 1 by 2;", "any; any; any;");
        Check.faulty(x, false, 2, "any; stop ^");
        Check.faulty(x, false, 4, "any; bake ^0;");
        Check.fine(x, "live(0) by the old ones", x.live(0), 3);
        Check.refused(x, "days(999)", x.days(999), 5);
        Check.fine(x, "live(0) by the old ones", x.live(0), 3);
        Check.fine(x, "days", Check.days(x, "any;"), 1);
        Check.fine(x, "live(0) by the new ones", x.live(0), 1);
        Check.fine(x, "days of none", Check.days(x, ""), 0);
        Check.fine(x, "live(0) by days of none", x.live(0), 0);
    }

    private static void faultTells() {
        BreadScribes x = new BreadScribes();
        x.bakery(5);
        Check.due("fault(0) behind STATUS 5", x.fault(0), -1);
        x.bakery(0);
        Check.due("fault(0)", x.fault(0), 0);
        Check.due("fault(1)", x.fault(1), -1);
        Check.due("fault(2)", x.fault(2), -1);
        Check.due("fault(-1)", x.fault(-1), -1);
        Check.faulty(x, false, 2, "any; ^go;");
        Check.due("fault(2)", x.fault(2), -1);
        x.days(7);
        Check.due("fault(0) behind STATUS 5", x.fault(0), 2);
        Check.due("fault(1) behind STATUS 5", x.fault(1), 5);
        x.mark();
        x.back();
        Check.due("fault(0) behind back()", x.fault(0), 2);
        Check.days(x, "any;");
        Check.due("fault(0) behind DAYS", x.fault(0), 0);
        Check.due("fault(1) behind DAYS", x.fault(1), -1);
        Check.faulty(x, true, 4, "odds ^17;");
        Check.bakery(x, "odds 16;");
        Check.due("fault(0) behind a BAKERY", x.fault(0), 0);
        Check.due("fault(1) behind a BAKERY", x.fault(1), -1);
    }
}
