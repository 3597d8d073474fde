import java.util.HashMap;
import java.util.Map;
import java.util.Random;

/**
 * "FAULT: the place (from 0) of the first byte with which no TEXT goes on; the length, if it ends too
 * early." Short texts by draws, read here by trying all ways to part them, and not from left to right:
 * a text goes on with a byte if something that ends all that is open makes a TEXT of it.
 */
public final class FaultTest {
    private static final Due DUE = new Due("FaultTest");
    private static final int TEXTS = 6000, LONGEST = 13, MOST_OPEN = 6;
    private static final String[] JOINING = {"|", "&", "<=>", "+-", "*/%"};
    private static final int COMPARING = 2, OPERAND = 5;

    /** Few signs each, so that a draw often makes a text, or nearly one. */
    private static final String[] SIGNS = {
        "1(!-s)", "12345678s+", "s1!-(|<+;?)", "s<=>1?;", "((((!--1)))", "s&|<=>+-*/%1!()?;", "(((((((((!-1)",
        "tw;?0", "n y1+", "m\u00001\u00ff",
    };

    private static final Map<String, Boolean> known = new HashMap<>();

    public static void main(String[] args) {
        Random lots = new Random(7);
        int whole = 0;
        for (int k = 0; k < TEXTS; k++) {
            String text = drawn(lots);
            int due = due(text);
            whole += due == 1 ? 1 : 0;
            DUE.is("law() of \"" + text + "\"", answer(text), due);
        }
        DUE.holds("some of the texts have no fault, and some have one", whole > 100 && whole < TEXTS - 100);
        DUE.end();
    }

    private static String drawn(Random lots) {
        String signs = SIGNS[lots.nextInt(SIGNS.length)];
        StringBuilder text = new StringBuilder();
        for (int left = lots.nextInt(LONGEST + 1); left > 0; left--) {
            text.append(signs.charAt(lots.nextInt(signs.length())));
        }
        return text.toString();
    }

    private static int answer(String text) {
        EiderClimate x = new EiderClimate();
        for (char sign : text.toCharArray()) {
            x.feed(sign);
        }
        return x.law();
    }

    private static int due(String text) {
        if (isText(text)) {
            return 1;
        }
        for (int place = 0; place < text.length(); place++) {
            if (!goesOn(text.substring(0, place + 1))) {
                return -100 - place;
            }
        }
        return -100 - text.length();
    }

    private static boolean goesOn(String begun) {
        for (int open = 0; open <= MOST_OPEN; open++) {
            if (isText(begun + ")".repeat(open)) || isText(begun + "1" + ")".repeat(open))) {
                return true;
            }
        }
        return false;
    }

    private static boolean isText(String text) {
        for (String line : text.split(";", -1)) {
            int asks = line.indexOf('?');
            boolean isLine = asks < 0
                    ? isJoined(0, line, 0)
                    : isJoined(0, line.substring(0, asks), 0) && isJoined(0, line.substring(asks + 1), 0);
            if (!isLine) {
                return false;
            }
        }
        return true;
    }

    private static boolean isJoined(int rank, String part, int open) {
        String key = rank + " " + open + " " + part;
        Boolean before = known.get(key);
        if (before == null) {
            before = rank == OPERAND ? isOperand(part, open) : isParted(rank, part, open);
            known.put(key, before);
        }
        return before;
    }

    private static boolean isParted(int rank, String part, int open) {
        if (isJoined(rank + 1, part, open)) {
            return true;
        }
        int ahead = rank == COMPARING ? rank + 1 : rank;
        for (int k = 0; k < part.length(); k++) {
            if (JOINING[rank].indexOf(part.charAt(k)) >= 0
                    && isJoined(ahead, part.substring(0, k), open)
                    && isJoined(rank + 1, part.substring(k + 1), open)) {
                return true;
            }
        }
        return false;
    }

    private static boolean isOperand(String part, int open) {
        if (part.matches("[0-9]{1,4}|[stwmny]")) {
            return true;
        }
        if (part.isEmpty() || open >= MOST_OPEN) {
            return false;
        }
        char first = part.charAt(0);
        if (first == '!' || first == '-') {
            return isJoined(OPERAND, part.substring(1), open + 1);
        }
        return first == '(' && part.length() > 2 && part.endsWith(")")
                && isJoined(0, part.substring(1, part.length() - 1), open + 1);
    }
}
