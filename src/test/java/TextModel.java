import java.util.ArrayList;
import java.util.Arrays;
import java.util.List;
import java.util.regex.Matcher;
import java.util.regex.Pattern;

/**
 * Which FAULT a text has, found in another way than the class does: each TOKEN becomes a letter, and what can stand
 * one behind the other is told by a pattern of letters.
 */
final class TextModel {
    private static final String[] RESERVED = {"odds", "store", "times", "man", "due", "by", "has", "known", "cut", "split",
        "give", "take", "bake", "any", "when", "even", "holds", "lacks", "loop", "end", "stop"};
    private static final String LETTERS = "OSTMDBHKCPGAEYWVLQRZX";
    private static final Pattern TOKEN = Pattern.compile("[ \\n]+|([a-z]+|[0-9]+|[;<>=])|(.)", Pattern.DOTALL);
    private static final Pattern BAKERY = Pattern.compile("(O0;|S0(T0)?;|MnD0B0(H0*)?;|K0*;)*");
    private static final Pattern DAYS = Pattern.compile(block(5));

    final List<String> tokens = new ArrayList<>();
    final List<Integer> places = new ArrayList<>();
    final StringBuilder kinds = new StringBuilder();
    int fault = 0;
    int place = -1;

    private TextModel(String text) {
        Matcher found = TOKEN.matcher(text);
        while (found.find()) {
            String token = found.group();
            if (found.group(1) != null || found.group(2) != null) {
                tokens.add(token);
                places.add(found.start());
                kinds.append(found.group(2) != null ? '!' : kind(token));
            }
        }
    }

    private static String block(int depth) {
        String steps = "C000;|P00;|Gn0;|An0;|E0;|Y;|X;";
        String tests = "Vn|L0[?]0|Qn[?]0";
        return depth == 0 ? "(" + steps + ")*" : "(" + steps + "|(W(" + tests + ");|R0;)" + block(depth - 1) + "Z;)*";
    }

    private static char kind(String token) {
        char first = token.charAt(0);
        if (first == ';') {
            return ';';
        }
        if (first == '<' || first == '>' || first == '=') {
            return '?';
        }
        if (first <= '9') {
            return token.length() > 4 ? '!' : '0';
        }
        int reserved = Arrays.asList(RESERVED).indexOf(token);
        return reserved >= 0 ? LETTERS.charAt(reserved) : token.length() > 8 ? 'w' : 'n';
    }

    static TextModel bakery(String text) {
        TextModel model = new TextModel(text);
        model.findFault(BAKERY, text, null);
        return model;
    }

    static TextModel days(String text, List<String> names) {
        TextModel model = new TextModel(text);
        model.findFault(DAYS, text, names);
        return model;
    }

    private void findFault(Pattern pattern, String text, List<String> names) {
        for (int i = 0; i < tokens.size() && fault == 0; i++) {
            Matcher matcher = pattern.matcher(kinds.substring(0, i + 1));
            boolean stands = matcher.matches() || matcher.hitEnd();
            fault = kinds.charAt(i) == '!' ? 1 : !stands ? 2 : names == null ? bakeryFault(i) : daysFault(i, names);
            place = fault == 0 ? -1 : places.get(i);
        }
        if (fault == 0 && !pattern.matcher(kinds).matches()) {
            fault = 2;
            place = text.length();
        }
    }

    private int bakeryFault(int i) {
        char kind = kinds.charAt(i);
        String ahead = kinds.substring(0, i);
        long men = ahead.chars().filter(c -> c == 'M').count();
        switch (kind) {
            case 'O':
            case 'K':
                return ahead.indexOf(kind) >= 0 ? 5 : 0;
            case 'M':
                return men == 6 ? 6 : 0;
            case 'n':
                return tokens.subList(0, i).contains(tokens.get(i)) ? 3 : 0;
            case '0':
                return bakeryNumberFault(i, ahead);
            default:
                return 0;
        }
    }

    private int bakeryNumberFault(int i, String ahead) {
        int number = number(i);
        switch (ahead.charAt(i - 1)) {
            case 'O':
                return number > 16 ? 4 : 0;
            case 'T':
                return number > 99 ? 4 : 0;
            case 'D':
                return number < 1 || number > 99 ? 4 : 0;
            case 'B':
                return isSlice(number) ? 0 : 4;
            case 'S':
                return !isSlice(number) ? 4 : toldBehind('S', 0, i) ? 5 : 0;
            default:
                int from = Math.max(ahead.lastIndexOf('H'), ahead.lastIndexOf('K'));
                return !isSlice(number) ? 4 : toldBehind(' ', from, i) ? 5 : 0;
        }
    }

    /** Whether the NUMBER of TOKEN i comes already from a TOKEN on (right behind such a WORD). */
    private boolean toldBehind(char word, int from, int i) {
        for (int j = from + 1; j < i; j++) {
            if (kinds.charAt(j) == '0' && (word == ' ' || kinds.charAt(j - 1) == word) && number(j) == number(i)) {
                return true;
            }
        }
        return false;
    }

    private int daysFault(int i, List<String> names) {
        char kind = kinds.charAt(i);
        String ahead = kinds.substring(0, i);
        if (kind == 'n') {
            return names.contains(tokens.get(i)) ? 0 : 3;
        }
        if (kind == '0') {
            return daysNumberFault(number(i), ahead.substring(ahead.lastIndexOf(';') + 1));
        }
        if ("CPGAEYWRX".indexOf(kind) < 0) {
            return 0;
        }
        long steps = ahead.chars().filter(c -> "CPGAEYWRX".indexOf(c) >= 0).count();
        long depth = ahead.chars().map(c -> c == 'W' || c == 'R' ? 1 : c == 'Z' ? -1 : 0).sum();
        return steps >= 30 ? 6 : (kind == 'W' || kind == 'R') && depth >= 3 ? 7 : 0;
    }

    /** Of a NUMBER behind such letters of its STEP. */
    private static int daysNumberFault(int number, String behind) {
        int least = behind.endsWith("?") ? 0 : behind.equals("P0") ? 2 : 1;
        int most = behind.endsWith("?") || behind.equals("R") ? 99 : behind.equals("E") ? 9 : 30;
        return number < least || number > most ? 4 : 0;
    }

    private static boolean isSlice(int number) {
        return number >= 1 && number <= 30;
    }

    int number(int i) {
        return Integer.parseInt(tokens.get(i));
    }

    char kind(int i) {
        return i < kinds.length() ? kinds.charAt(i) : ' ';
    }
}
