/** Promises 21 to 29: month, pull, shake, stuff, led, image, back, undo, redo. */
public final class DeedTest {
    private static final Due DUE = new Due("DeedTest");

    public static void main(String[] args) {
        month();
        pull();
        shake();
        stuff();
        led();
        imageAndBack();
        undoAndRedo();
        deedsAreNoChanges();
        fortyAreKept();
        DUE.end();
    }

    private static void square(EiderClimate x, int square, int sort, int thick, int worn) {
        x.mend(square, 0, sort);
        x.mend(square, 1, thick);
        x.mend(square, 2, worn);
    }

    private static void month() {
        EiderClimate x = new EiderClimate();
        square(x, 7, 2, 5, 11);
        square(x, 29, 3, 1, 0);
        x.house(7, 0);
        x.house(8, 1);
        x.house(9, 50);
        x.mend(2, 5, 1 << 1);
        x.mend(0, 7, 2);
        DUE.is("house 1 gets 5 / 4", x.month(), 0);
        DUE.is("thick", x.of(7, 1), 4);
        DUE.is("worn", x.of(7, 2), 0);
        DUE.is("month", x.of(0, 6), 1);
        DUE.is("slips not yet", x.of(13, 0), 0);
        DUE.is("house 2 in its month", x.month(), 1);
        DUE.is("slipped", x.of(13, 0), 2);
        DUE.is("slipped: thick", x.of(13, 1), 4);
        DUE.is("slipped: worn", x.of(13, 2), 1);
        DUE.is("slipped round", x.of(5, 0), 3);
        DUE.is("slipped round: worn", x.of(5, 2), 2);
        DUE.is("nothing left", x.of(29, 0), 0);
        DUE.is("led months", x.led(0), 2);
        DUE.is("led cold", x.led(4), 1);
        x.mend(0, 6, 11);
        x.month();
        DUE.is("behind 11", x.of(0, 6), 0);
        DUE.is("cold: house 1 alone", x.led(4), 2);
    }

    private static void pull() {
        EiderClimate x = new EiderClimate();
        for (int i = 0; i < 6; i++) {
            square(x, 12 + i, i % 5, i, i + 1);
        }
        DUE.is("to the right: sort at X 0", x.pull(4), 0);
        for (int i = 0; i < 6; i++) {
            int from = (i + 5) % 6;
            DUE.is("sort", x.of(12 + i, 0), from % 5);
            DUE.is("thick", x.of(12 + i, 1), from);
            DUE.is("worn", x.of(12 + i, 2), from + 1);
        }
        DUE.is("to the left", x.pull(5), 0);
        DUE.is("to the left", x.pull(5), 1);
        DUE.is("sort at X 5", x.of(17, 0), 0);
        DUE.is("worn at X 5", x.of(17, 2), 1);
        DUE.is("thick at X 0", x.of(12, 1), 1);
        DUE.is("the row above is as it was", x.of(11, 1), 0);
        DUE.is("the row below is as it was", x.of(18, 1), 0);
        DUE.is("rw -1", x.pull(-1), -1);
        DUE.is("rw 10", x.pull(10), -1);
        DUE.is("rw 9", x.pull(9), 0);
        DUE.is("led", x.led(1), 4);
    }

    private static void shake() {
        EiderClimate x = new EiderClimate();
        square(x, 0, 1, 9, 3);
        square(x, 1, 2, 7, 4);
        square(x, 14, 3, 3, 5);
        square(x, 15, 3, 9, 5);
        DUE.is("19 by nine, one over", x.shake(7), 3);
        for (int square : new int[] {0, 1, 2, 6, 8, 12, 13, 14}) {
            DUE.is("thick", x.of(square, 1), 2);
        }
        DUE.is("sort stays", x.of(0, 0), 1);
        DUE.is("worn stays", x.of(14, 2), 5);
        DUE.is("outside", x.of(15, 1), 9);
        DUE.is("led", x.led(2), 1);
        for (int square = 0; square < 30; square++) {
            int column = square % 6;
            boolean rim = column == 0 || column == 5 || square < 6 || square > 23;
            DUE.holds("rim " + square, (x.shake(square) == -1) == rim);
        }
        DUE.is("square -1", x.shake(-1), -1);
        DUE.is("square 30", x.shake(30), -1);
        DUE.is("led 12 more", x.led(2), 13);
        EiderClimate y = new EiderClimate();
        for (int square : new int[] {0, 1, 2, 6, 7, 8, 12, 13}) {
            square(y, square, 1, 9, 0);
        }
        square(y, 14, 1, 8, 0);
        DUE.is("80: 8 each, 8 over, 9 at most", y.shake(7), 9);
        DUE.is("the others", y.of(0, 1), 8);
        DUE.is("the others", y.of(14, 1), 8);
    }

    private static void stuff() {
        EiderClimate x = new EiderClimate();
        square(x, 3, 1, 2, 7);
        DUE.is("its sort till then", x.stuff(3, 49), 1);
        DUE.is("sort", x.of(3, 0), 4);
        DUE.is("thick", x.of(3, 1), 9);
        DUE.is("worn", x.of(3, 2), 0);
        DUE.is("the least", x.stuff(3, 11), 4);
        for (int st : new int[] {-11, -1, 0, 1, 9, 10, 20, 30, 40, 50, 51, 59, 111, Integer.MAX_VALUE}) {
            DUE.is("st " + st, x.stuff(3, st), -1);
        }
        DUE.is("square -1", x.stuff(-1, 11), -1);
        DUE.is("square 30", x.stuff(30, 11), -1);
        DUE.is("led", x.led(3), 2);
    }

    private static void led() {
        EiderClimate x = new EiderClimate();
        x.house(0, 1);
        x.house(0, 1);
        x.month();
        x.month();
        x.month();
        x.pull(0);
        x.pull(0);
        x.shake(7);
        x.stuff(0, 11);
        x.stuff(0, 11);
        x.stuff(0, 11);
        x.stuff(0, 11);
        int[] want = {3, 2, 1, 4, 6};
        for (int what = 0; what < 5; what++) {
            DUE.is("led " + what, x.led(what), want[what]);
        }
        DUE.is("led(-1)", x.led(-1), -1);
        DUE.is("led(5)", x.led(5), -1);
    }

    private static void imageAndBack() {
        EiderClimate x = new EiderClimate();
        DUE.is("none", x.back(), -5);
        square(x, 8, 2, 9, 3);
        x.house(0, 90);
        x.mend(0, 7, 3);
        x.month();
        x.pull(2);
        DUE.is("image", x.image(), 1);
        x.month();
        x.month();
        x.pull(3);
        x.shake(8);
        x.stuff(1, 33);
        x.mend(0, 7, 5);
        x.mend(0, 4, 80);
        x.mend(0, 3, 4);
        x.house(9, 9);
        DUE.is("back", x.back(), 1);
        DUE.is("square", x.of(9, 0), 2);
        DUE.is("thick", x.of(9, 1), 9);
        DUE.is("worn", x.of(9, 2), 4);
        DUE.is("stuffed no more", x.of(1, 0), 0);
        DUE.is("month", x.of(0, 6), 1);
        int[] want = {1, 1, 0, 0, 1};
        for (int what = 0; what < 5; what++) {
            DUE.is("led " + what, x.led(what), want[what]);
        }
        DUE.is("slip is not kept", x.of(0, 7), 5);
        DUE.is("houses are not kept", x.of(0, 4), 80);
        DUE.is("houses are not kept", x.of(0, 3), 4);
        DUE.is("houses are not kept", x.count(0), 2);
        x.mend(0, 7, 2);
        DUE.is("so it slips in the second", x.later(1, 15, 1), 2);
        x.month();
        DUE.is("again", x.back(), 1);
        DUE.is("again", x.of(9, 0), 2);
        x.month();
        DUE.is("a newer image", x.image(), 2);
        x.month();
        DUE.is("back to it", x.back(), 2);
    }

    private static void undoAndRedo() {
        EiderClimate x = new EiderClimate();
        DUE.is("undo", x.undo(), -5);
        DUE.is("redo", x.redo(), -5);
        x.house(5, 5);
        int[] values = {3, 8, 11, 20, 77, 5, 6, 9};
        int[] was = {0, 0, 0, 5, 5, 4095, 0, 0};
        for (int what = 0; what < 8; what++) {
            x.mend(0, what, values[what]);
            DUE.is("the same is none", x.mend(0, what, values[what]), values[what]);
        }
        DUE.is("count", x.count(3), 8);
        for (int what = 7; what >= 0; what--) {
            DUE.is("undo", x.undo(), what);
            DUE.is("is as it was", x.of(0, what), was[what]);
        }
        DUE.is("no more", x.undo(), -5);
        DUE.is("count", x.count(3), 0);
        for (int what = 0; what < 8; what++) {
            DUE.is("redo", x.redo(), 7 - what);
            DUE.is("is again", x.of(0, what), values[what]);
        }
        DUE.is("no more", x.redo(), -5);
        x.undo();
        x.undo();
        DUE.is("the same is none, redo stays", x.mend(0, 0, 3), 3);
        DUE.is("a wrong one is none, redo stays", x.mend(0, 0, 5), -1);
        DUE.is("redo", x.redo(), 1);
        DUE.is("another comes behind", x.mend(0, 0, 4), 3);
        DUE.is("no redo", x.redo(), -5);
        DUE.is("seven and one", x.count(3), 8);
        DUE.is("undo", x.undo(), 7);
        DUE.is("sort", x.of(0, 0), 3);
    }

    private static void deedsAreNoChanges() {
        EiderClimate x = new EiderClimate();
        x.mend(7, 1, 5);
        x.stuff(7, 49);
        x.house(1, 1);
        x.image();
        x.feed('s');
        x.law();
        DUE.is("one change", x.count(3), 1);
        DUE.is("undo", x.undo(), 0);
        DUE.is("thick is as it was told", x.of(7, 1), 0);
        DUE.is("sort is as by the deed", x.of(7, 0), 4);
        x.month();
        x.pull(0);
        x.shake(8);
        x.back();
        DUE.is("deeds leave redo", x.redo(), 0);
        DUE.is("thick is as told again", x.of(7, 1), 5);
        x.mend(0, 6, 4);
        x.month();
        x.undo();
        DUE.is("month", x.of(0, 6), 0);
        x.redo();
        DUE.is("month again", x.of(0, 6), 4);
    }

    private static void fortyAreKept() {
        EiderClimate x = new EiderClimate();
        for (int i = 1; i <= 45; i++) {
            x.mend(i % 30, 1, 1 + i / 30);
            DUE.is("count", x.count(3), Math.min(i, 40));
        }
        for (int left = 39; left >= 0; left--) {
            DUE.is("undo", x.undo(), left);
        }
        DUE.is("the first five stay", x.undo(), -5);
        DUE.is("the fifth", x.of(5, 1), 1);
        DUE.is("the sixth", x.of(6, 1), 0);
        for (int left = 39; left >= 0; left--) {
            DUE.is("redo", x.redo(), left);
        }
        DUE.is("the last", x.of(15, 1), 2);
        DUE.is("no more", x.redo(), -5);
        DUE.is("count", x.count(3), 40);
    }
}
