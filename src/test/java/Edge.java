import java.util.ArrayList;
import java.util.List;
import java.util.function.Consumer;
import java.util.function.ToLongFunction;

/**
 * Looks at calls at the edges of what is taken. Each is asked of an object with some life behind
 * it that has a twin of which it is not asked: a call that must change nothing leaves the two alike.
 */
final class Edge {
    static final int BAD = -1, NOT = -2, FULL = -3, STATE = -5, VOID = -2000000000;

    private final Due due;
    private final Consumer<EiderClimate> start;

    Edge(Due due, Consumer<EiderClimate> start) {
        this.due = due;
        this.start = start;
    }

    /** Numbers that are not from least to most: the nearest on each side, and far ones. */
    static int[] outside(int least, int most) {
        return new int[] {Integer.MIN_VALUE, -65536, least - 1, most + 1, 65536, Integer.MAX_VALUE};
    }

    private EiderClimate begun() {
        EiderClimate x = new EiderClimate();
        start.accept(x);
        return x;
    }

    /** The answer is due, whatever comes of the call. */
    void answers(String call, long want, ToLongFunction<EiderClimate> asked) {
        due.is(call, asked.applyAsLong(begun()), want);
    }

    /** The answer is due, and nothing else comes of the call. */
    void changesNothing(String call, long want, ToLongFunction<EiderClimate> asked) {
        EiderClimate x = begun();
        due.is(call, asked.applyAsLong(x), want);
        List<String> got = whole(x);
        List<String> twins = whole(begun());
        String unlike = "";
        for (int i = 0; i < Math.max(got.size(), twins.size()) && unlike.isEmpty(); i++) {
            String one = i < got.size() ? got.get(i) : "nothing";
            String other = i < twins.size() ? twins.get(i) : "nothing";
            unlike = one.equals(other) ? "" : one + " instead of " + other;
        }
        due.holds(call + " changes nothing, but there is " + unlike, unlike.isEmpty());
    }

    /** The answer of the second of two calls, the first of which was made ahead of it. */
    static long behind(long first, long second) {
        return second;
    }

    /** Some of everything: squares, houses, a law and a tape begun, shelves, deeds, changes, an image. */
    static void live(EiderClimate x) {
        square(x, 0, 1, 9, 3);
        square(x, 7, 2, 5, 11);
        square(x, 8, 3, 1, 12);
        square(x, 14, 4, 7, 0);
        square(x, 29, 2, 8, 6);
        x.house(7, 12);
        x.house(29, 30);
        x.house(14, 99);
        x.mend(1, 5, 1365);
        x.mend(0, 7, 5);
        tell(x, "t*s+n/3-m");
        feed(x, "s+");
        for (int kind = 0; kind < 8; kind++) {
            x.body(kind);
        }
        row(x, 0, 0, 5, 5, 4);
        row(x, 1, 1, 3, 20, 4095, 9, 9, 1, 30);
        row(x, 2, 2, 1, 2);
        x.keep(3, 4);
        row(x, 5, 4, 1);
        x.month();
        x.pull(3);
        x.shake(8);
        x.stuff(15, 43);
        x.month();
        x.image();
        x.month();
        x.pull(4);
        x.mend(8, 1, 2);
        x.mend(0, 6, 7);
        x.mend(29, 0, 1);
        x.undo();
        x.undo();
        x.act(7, 3, 5);
    }

    static void square(EiderClimate x, int square, int sort, int thick, int worn) {
        x.mend(square, 0, sort);
        x.mend(square, 1, thick);
        x.mend(square, 2, worn);
    }

    static void feed(EiderClimate x, String text) {
        for (int i = 0; i < text.length(); i++) {
            x.feed(text.charAt(i));
        }
    }

    static int tell(EiderClimate x, String text) {
        feed(x, text);
        return x.law();
    }

    static void row(EiderClimate x, int shelf, int sort, long... values) {
        x.row(shelf, sort, values.length);
        for (int i = 0; i < values.length; i++) {
            x.put(shelf, i, values[i]);
        }
    }

    /** All that can be seen of an object, by some 300 calls and two for each change, the last of which change it. */
    static List<String> whole(EiderClimate x) {
        List<String> seen = new ArrayList<>();
        for (int square = 0; square < 30; square++) {
            seen.add("square " + square + ": " + x.of(square, 0) + " " + x.of(square, 1) + " " + x.of(square, 2));
        }
        for (int house = 0; house < 8; house++) {
            seen.add("house " + house + ": " + x.of(house, 3) + " " + x.of(house, 4) + " " + x.of(house, 5));
        }
        seen.add("month " + x.of(0, 6) + ", slip " + x.of(0, 7));
        for (int what = 0; what < 6; what++) {
            seen.add("count " + what + ": " + x.count(what));
        }
        seen.add(ledOf(x));
        for (int i = 0; i < 15; i++) {
            seen.add("trace " + i + ": " + x.trace(i));
        }
        for (int shelf = 0; shelf < 6; shelf++) {
            seen.add("shelf " + shelf + ": " + x.taken(shelf, 0) + " " + x.put(shelf, 60, 0));
            for (int i = 0; i < 8; i++) {
                seen.add("element " + shelf + " " + i + ": " + x.element(shelf, i));
            }
        }
        addWarmth(x, seen, 0);
        addWarmth(x, seen, 4);
        for (int body = 0; body < 10; body++) {
            seen.add("act " + body + ": " + x.act(body, 3, 5));
        }
        addPast(x, seen);
        return seen;
    }

    private static String ledOf(EiderClimate x) {
        StringBuilder led = new StringBuilder("led");
        for (int what = 0; what < 5; what++) {
            led.append(' ').append(x.led(what));
        }
        return led.toString();
    }

    private static void addWarmth(EiderClimate x, List<String> seen, int n) {
        for (int place = 0; place < 30; place += n == 0 ? 1 : 7) {
            seen.add("warmth at " + place + " behind " + n + ": " + x.later(n, place, 0));
        }
    }

    /** What was kept of the past, and what the tape has, which is seen only by using it. */
    private static void addPast(EiderClimate x, List<String> seen) {
        for (int answer = 0, k = 0; answer >= 0 && k <= 40; k++) {
            answer = x.redo();
            seen.add("redo: " + answer);
        }
        for (int answer = 0, k = 0; answer >= 0 && k <= 40; k++) {
            answer = x.undo();
            seen.add("undo: " + answer);
        }
        for (int square : new int[] {0, 7, 8, 14, 29}) {
            seen.add("undone " + square + ": " + x.of(square, 0) + " " + x.of(square, 1) + " " + x.of(square, 2));
        }
        seen.add("back: " + x.back() + " month " + x.of(0, 6) + " " + ledOf(x));
        for (int square = 0; square < 30; square += 7) {
            seen.add("then " + square + ": " + x.of(square, 0) + " " + x.of(square, 1) + " " + x.of(square, 2));
        }
        seen.add("law: " + x.law() + " " + x.later(0, 7, 0));
    }
}
