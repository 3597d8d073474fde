/** Promises 30 to 39: body, act, trace, keep, row, put, element, shift, taken, count. */
public final class ActsTest {
    private static final Due DUE = new Due("ActsTest");
    private static final int NOT_DUE = Integer.MIN_VALUE;

    public static void main(String[] args) {
        body();
        traces();
        acts();
        actRefused();
        keepAndTaken();
        row();
        putAndElement();
        shift();
        shiftRefused();
        count();
        DUE.end();
    }

    private static void body() {
        EiderClimate x = new EiderClimate();
        DUE.is("kind -1", x.body(-1), -1);
        DUE.is("kind 8", x.body(8), -1);
        for (int i = 0; i < 50; i++) {
            DUE.is("body", x.body(i % 8), i);
        }
        DUE.is("full", x.body(0), -3);
        DUE.is("BAD is named before FULL", x.body(8), -1);
        DUE.is("count", x.count(4), 50);
    }

    private static void ran(EiderClimate x, int body, int act, int argument, int want, int... bodies) {
        String call = "act(" + body + ", " + act + ", " + argument + ")";
        DUE.is(call, x.act(body, act, argument), want);
        DUE.is(call + ": how many ran", x.count(5), bodies.length);
        for (int i = 0; i < bodies.length; i++) {
            DUE.is(call + ": trace " + i, x.trace(i), bodies[i]);
        }
        DUE.is(call + ": no more", x.trace(bodies.length), -1);
        DUE.is(call + ": none before", x.trace(-1), -1);
    }

    /** Body n of these is of kind n, so that its number is its kind. */
    private static EiderClimate oneOfEach() {
        EiderClimate x = new EiderClimate();
        for (int kind = 0; kind < 8; kind++) {
            x.body(kind);
        }
        return x;
    }

    private static void traces() {
        EiderClimate x = oneOfEach();
        ran(x, 0, 0, 7, 7, 1);
        ran(x, 0, 1, 7, 14, 10, 1);
        ran(x, 0, 2, 7, 7, 11);
        ran(x, 0, 3, 7, 13, 2, 10, 1, 11);
        ran(x, 1, 0, 7, 11, 20, 1);
        ran(x, 1, 1, 7, 22, 10, 20, 1);
        ran(x, 1, 3, 7, 22, 2, 10, 20, 1, 11);
        ran(x, 2, 1, 7, -18, 30, 10, 1);
        ran(x, 2, 3, 7, -18 - 3, 2, 30, 10, 1, 11);
        ran(x, 3, 1, 7, -22, 41, 30, 10, 1);
        ran(x, 3, 2, 7, 12, 40, 11);
        ran(x, 3, 3, 7, -22 - 6, 2, 41, 30, 10, 1, 40, 11);
        ran(x, 4, 2, 7, 3 - 9, 50, 11, 20, 1);
        ran(x, 4, 3, 7, 28 - (5 - 9), 2, 10, 20, 1, 50, 11, 20, 1);
        ran(x, 5, 3, 7, (-26 - 12) ^ 5, 60, 2, 41, 30, 10, 1, 40, 11);
        ran(x, 6, 0, 7, 26, 70, 1);
        ran(x, 6, 3, 7, 52 - 7, 2, 10, 70, 1, 11);
        ran(x, 7, 1, 7, 34 + (5 - 12), 80, 10, 20, 1, 50, 11, 20, 1);
        ran(x, 7, 3, 7, 27 - (6 - 12) - 1, 81, 2, 80, 10, 20, 1, 50, 11, 20, 1, 50, 11, 20, 1);
    }

    private static void acts() {
        EiderClimate x = oneOfEach();
        int big = Integer.MAX_VALUE;
        DUE.is("wraps", x.act(1, 0, big), big + 4);
        DUE.is("wraps", x.act(0, 1, big), -2);
        DUE.is("wraps", x.act(3, 1, big), -((big + 1 + 3) * 2));
        DUE.is("wraps", x.act(3, 2, big), (big ^ 3) * 3);
        DUE.is("the number counts", new EiderClimate().body(6), 0);
    }

    private static void actRefused() {
        EiderClimate x = oneOfEach();
        for (int[] call : new int[][] {{-1, 0}, {8, 0}, {0, -1}, {0, 4}, {NOT_DUE, NOT_DUE}}) {
            DUE.is("an act", x.act(1, 0, 5), 9);
            DUE.is("ran", x.count(5), 2);
            DUE.is("no such", x.act(call[0], call[1], 5), 0);
            DUE.is("none ran", x.count(5), 0);
            DUE.is("no trace", x.trace(0), -1);
        }
        DUE.is("far", x.trace(Integer.MAX_VALUE), -1);
    }

    private static void keepAndTaken() {
        EiderClimate x = oneOfEach();
        boolean[][] isUnder = new boolean[8][8];
        int[] above = {-1, 0, 0, 2, 1, 3, 0, 4};
        for (int kind = 0; kind < 8; kind++) {
            for (int k = kind; k >= 0; k = above[k]) {
                isUnder[kind][k] = true;
            }
        }
        for (int kind = 0; kind < 8; kind++) {
            DUE.is("keep", x.keep(5, kind), 1);
            for (int k = 0; k < 8; k++) {
                DUE.is(kind + " taken for " + k, x.taken(5, k), isUnder[kind][k] ? kind : -12);
            }
        }
        DUE.is("keep 8", x.keep(5, 8), -1);
        DUE.is("keep -2", x.keep(5, -2), -1);
        DUE.is("keep on -1", x.keep(-1, 0), -1);
        DUE.is("keep on 6", x.keep(6, 0), -1);
        DUE.is("still held", x.taken(5, 0), 7);
        DUE.is("taken for -1", x.taken(5, -1), -1);
        DUE.is("taken for 8", x.taken(5, 8), -1);
        DUE.is("taken from -1", x.taken(-1, 0), -1);
        DUE.is("taken from 6", x.taken(6, 0), -1);
        DUE.is("nothing there", x.taken(4, 0), -11);
        DUE.is("nothing", x.keep(5, -1), 1);
        DUE.is("nothing there", x.taken(5, 0), -11);
        x.row(5, 2, 3);
        DUE.is("a row", x.taken(5, 0), -12);
        DUE.is("a stitch for a row", x.keep(5, 2), 1);
        DUE.is("a stitch", x.taken(5, 2), 2);
        DUE.is("no stitches yet", new EiderClimate().keep(0, 0), -1);
    }

    private static void row() {
        EiderClimate x = new EiderClimate();
        DUE.is("shelf -1", x.row(-1, 0, 0), -1);
        DUE.is("shelf 6", x.row(6, 0, 0), -1);
        DUE.is("sort -1", x.row(0, -1, 0), -1);
        DUE.is("sort 5", x.row(0, 5, 0), -1);
        DUE.is("n 61", x.row(0, 0, 61), -1);
        DUE.is("n -1", x.row(0, 0, -1), -14);
        DUE.is("n far below", x.row(0, 0, Integer.MIN_VALUE), -14);
        DUE.is("BAD is named before -14", x.row(0, 5, -1), -1);
        DUE.is("nothing came", x.put(0, 0, 1), -11);
        DUE.is("60", x.row(0, 3, 60), 1);
        for (int i = 0; i < 60; i++) {
            DUE.is("0 at first", x.element(0, i), 0);
            x.put(0, i, i + 1);
        }
        DUE.is("n -1", x.row(0, 0, -1), -14);
        DUE.is("is as it was", x.element(0, 59), 60);
        x.row(0, 3, 60);
        DUE.is("anew", x.element(0, 59), 0);
        x.put(0, 59, 4);
        x.row(0, 3, 1);
        x.row(0, 3, 60);
        DUE.is("anew from a lesser one", x.element(0, 59), 0);
    }

    private static void putAndElement() {
        EiderClimate x = oneOfEach();
        long v = 0x123456789abcdef1L;
        long[] kept = {(byte) v, (short) v, (int) v, v, 1};
        long[] negative = {-128, -32768, Integer.MIN_VALUE, Long.MAX_VALUE, 1};
        long[] from = {128, 32768, 0x80000000L, Long.MAX_VALUE, Long.MIN_VALUE};
        for (int sort = 0; sort <= 4; sort++) {
            x.row(2, sort, 2);
            DUE.is("put", x.put(2, 1, v), 1);
            DUE.is("element of sort " + sort, x.element(2, 1), kept[sort]);
            DUE.is("the other", x.element(2, 0), 0);
            DUE.is("put", x.put(2, 0, from[sort]), 1);
            DUE.is("element", x.element(2, 0), negative[sort]);
            DUE.is("put", x.put(2, 0, 0), 1);
            DUE.is("element", x.element(2, 0), 0);
            DUE.is("-1", x.put(2, -1, 0), -13);
            DUE.is("2", x.put(2, 2, 0), -13);
            DUE.is("-1", x.element(2, -1), Long.MIN_VALUE);
            DUE.is("2", x.element(2, 2), Long.MIN_VALUE);
        }
        DUE.is("256 is a byte of 0", putByte(x, 256), 0);
        DUE.is("256 is a true", putBoolean(x, 256), 1);
        DUE.is("shelf -1", x.put(-1, 0, 0), -1);
        DUE.is("shelf 6", x.put(6, 0, 0), -1);
        DUE.is("shelf 6", x.element(6, 0), Long.MIN_VALUE);
        DUE.is("nothing", x.put(3, 0, 0), -11);
        DUE.is("nothing", x.put(3, -1, 0), -11);
        DUE.is("nothing", x.element(3, 0), Long.MIN_VALUE);
        x.keep(3, 0);
        DUE.is("a stitch", x.put(3, 0, 0), -12);
        DUE.is("a stitch", x.put(3, -1, 0), -12);
        DUE.is("a stitch", x.element(3, 0), Long.MIN_VALUE);
        x.row(3, 0, 0);
        DUE.is("no element", x.put(3, 0, 0), -13);
    }

    private static long putByte(EiderClimate x, long v) {
        x.row(2, 0, 1);
        x.put(2, 0, v);
        return x.element(2, 0);
    }

    private static long putBoolean(EiderClimate x, long v) {
        x.row(2, 4, 1);
        x.put(2, 0, v);
        return x.element(2, 0);
    }

    private static void numbered(EiderClimate x, int shelf, int sort, int n) {
        x.row(shelf, sort, n);
        for (int i = 0; i < n; i++) {
            x.put(shelf, i, i + 1);
        }
    }

    private static void elements(EiderClimate x, int shelf, long... want) {
        for (int i = 0; i < want.length; i++) {
            DUE.is("element " + i, x.element(shelf, i), want[i]);
        }
    }

    private static void shift() {
        EiderClimate x = new EiderClimate();
        numbered(x, 0, 2, 5);
        DUE.is("to the right in itself", x.shift(0, 0, 0, 1, 4), 4);
        elements(x, 0, 1, 1, 2, 3, 4);
        DUE.is("to the left in itself", x.shift(0, 2, 0, 0, 3), 3);
        elements(x, 0, 2, 3, 4, 3, 4);
        x.row(1, 2, 3);
        DUE.is("to another", x.shift(0, 1, 1, 1, 2), 2);
        elements(x, 1, 0, 3, 4);
        elements(x, 0, 2, 3, 4, 3, 4);
        DUE.is("all", x.shift(1, 0, 0, 2, 3), 3);
        elements(x, 0, 2, 3, 0, 3, 4);
        DUE.is("none", x.shift(0, 5, 1, 3, 0), 0);
        DUE.is("none", x.shift(0, 0, 0, 0, 0), 0);
        numbered(x, 4, 3, 60);
        x.row(5, 3, 60);
        DUE.is("sixty", x.shift(4, 0, 5, 0, 60), 60);
        DUE.is("the last", x.element(5, 59), 60);
    }

    private static void shiftRefused() {
        EiderClimate x = oneOfEach();
        x.row(0, 2, 5);
        x.row(1, 3, 5);
        x.keep(2, 0);
        x.keep(3, 1);
        DUE.is("shelf", x.shift(-1, 0, 0, 0, 1), -1);
        DUE.is("shelf", x.shift(6, 0, 0, 0, 1), -1);
        DUE.is("other", x.shift(0, 0, -1, 0, 1), -1);
        DUE.is("other", x.shift(0, 0, 6, 0, 1), -1);
        DUE.is("nothing", x.shift(4, 0, 0, 0, 1), -11);
        DUE.is("nothing", x.shift(0, 0, 4, 0, 1), -11);
        DUE.is("nothing, and a stitch", x.shift(2, 0, 4, 0, 1), -11);
        DUE.is("nothing, and a stitch", x.shift(4, 0, 2, 0, 1), -11);
        DUE.is("a stitch", x.shift(2, 0, 0, 0, 1), -12);
        DUE.is("a stitch", x.shift(0, 0, 2, 0, 1), -12);
        DUE.is("two stitches", x.shift(2, 0, 3, 0, 1), -12);
        DUE.is("one stitch twice", x.shift(2, 0, 2, 0, 0), -12);
        DUE.is("unlike sorts", x.shift(0, 0, 1, 0, 1), -12);
        DUE.is("unlike sorts, no place", x.shift(0, -1, 1, 0, 1), -12);
        DUE.is("i", x.shift(0, -1, 0, 0, 1), -13);
        DUE.is("i", x.shift(0, 5, 0, 0, 1), -13);
        DUE.is("i", x.shift(0, 6, 0, 0, 0), -13);
        DUE.is("j", x.shift(0, 0, 0, -1, 1), -13);
        DUE.is("j", x.shift(0, 0, 0, 5, 1), -13);
        DUE.is("n", x.shift(0, 0, 0, 0, -1), -13);
        DUE.is("n", x.shift(0, 0, 0, 0, 6), -13);
        DUE.is("far", x.shift(0, Integer.MAX_VALUE, 0, 0, Integer.MAX_VALUE), -13);
        DUE.is("far", x.shift(0, 1, 0, 1, Integer.MAX_VALUE), -13);
        DUE.is("far", x.shift(0, 1, 0, 1, Integer.MIN_VALUE), -13);
    }

    private static void count() {
        EiderClimate x = oneOfEach();
        DUE.is("count(-1)", x.count(-1), -1);
        DUE.is("count(6)", x.count(6), -1);
        x.house(0, 0);
        x.house(0, 0);
        x.mend(4, 1, 1);
        x.mend(5, 1, 1);
        x.mend(6, 1, 1);
        x.mend(7, 0, 1);
        x.feed('s');
        x.act(0, 3, 1);
        int[] want = {2, 3, 1, 4, 8, 4};
        for (int what = 0; what < 6; what++) {
            DUE.is("count(" + what + ")", x.count(what), want[what]);
        }
    }
}
