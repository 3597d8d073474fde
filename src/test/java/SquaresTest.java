/** Promises 1 to 5: a new object, house, houses, mend, of. */
public final class SquaresTest {
    private static final Due DUE = new Due("SquaresTest");

    public static void main(String[] args) {
        newObject();
        house();
        housesFromRow();
        housesRefused();
        housesFromPlacesThatAreNotThere();
        mendAndOf();
        mendRefused();
        DUE.end();
    }

    private static void newObject() {
        EiderClimate x = new EiderClimate();
        for (int square = 0; square < 30; square++) {
            DUE.is("of sort", x.of(square, 0), 0);
            DUE.is("of thick", x.of(square, 1), 0);
            DUE.is("of worn", x.of(square, 2), 0);
        }
        DUE.is("of month", x.of(0, 6), 0);
        DUE.is("of slip", x.of(0, 7), 0);
        for (int what = 0; what <= 5; what++) {
            DUE.is("count " + what, x.count(what), 0);
        }
        for (int what = 0; what <= 4; what++) {
            DUE.is("led " + what, x.led(what), 0);
        }
        for (int shelf = 0; shelf < 6; shelf++) {
            DUE.is("taken", x.taken(shelf, 0), -11);
        }
        DUE.is("back", x.back(), EiderClimate.STATE);
        DUE.is("undo", x.undo(), EiderClimate.STATE);
        DUE.is("redo", x.redo(), EiderClimate.STATE);
        DUE.is("trace", x.trace(0), EiderClimate.BAD);
    }

    private static void house() {
        EiderClimate x = new EiderClimate();
        DUE.is("house(-1, 0)", x.house(-1, 0), -1);
        DUE.is("house(30, 0)", x.house(30, 0), -1);
        DUE.is("house(0, -1)", x.house(0, -1), -1);
        DUE.is("house(0, 100)", x.house(0, 100), -1);
        DUE.is("house(29, 99)", x.house(29, 99), 0);
        DUE.is("its place", x.of(0, 3), 29);
        DUE.is("its needs", x.of(0, 4), 99);
        DUE.is("its months", x.of(0, 5), 4095);
        for (int i = 1; i < 8; i++) {
            DUE.is("house", x.house(0, 0), i);
        }
        DUE.is("house, full", x.house(0, 0), -3);
        DUE.is("BAD is named before FULL", x.house(30, 0), -1);
        DUE.is("count", x.count(0), 8);
        DUE.is("a house is no change", x.count(3), 0);
    }

    private static void fill(EiderClimate x, int shelf, int... values) {
        x.row(shelf, 1, values.length);
        for (int i = 0; i < values.length; i++) {
            x.put(shelf, i, values[i]);
        }
    }

    private static void housesFromRow() {
        EiderClimate x = new EiderClimate();
        fill(x, 2, 9, 1, 20, 3, 2, 30, 4, 29, 99);
        DUE.is("ends within a three", x.houses(2, 1, 8), 2);
        DUE.is("place", x.of(0, 3), 1);
        DUE.is("needs", x.of(0, 4), 20);
        DUE.is("months", x.of(0, 5), 3);
        DUE.is("place", x.of(1, 3), 2);
        DUE.is("needs", x.of(1, 4), 30);
        DUE.is("months", x.of(1, 5), 4);
        DUE.is("as many as asked for", x.houses(2, 1, 1), 1);
        DUE.is("at the end", x.houses(2, 9, 3), 0);
        DUE.is("one short", x.houses(2, 7, 3), 0);
        DUE.is("far behind the end", x.houses(2, Integer.MAX_VALUE, 8), 0);
        fill(x, 3, 0, 0, 0, 30, 0, 0, 1, 1, 1);
        DUE.is("one place is not so", x.houses(3, 0, 3), 1);
        fill(x, 3, 0, 0, 0, 0, 100, 0, 1, 1, 1);
        DUE.is("needs are not so", x.houses(3, 0, 3), 1);
        fill(x, 3, 0, 0, 0, 0, 0, 4096, 1, 1, 1);
        DUE.is("months are not so", x.houses(3, 0, 3), 1);
        fill(x, 3, 0, 0, 0, 0, 0, -1, 1, 1, 1);
        DUE.is("months are below 0", x.houses(3, 0, 3), 1);
        DUE.is("seven are there", x.count(0), 7);
        fill(x, 3, 5, 5, 5, 6, 6, 6);
        DUE.is("full in between", x.houses(3, 0, 2), 1);
        DUE.is("full", x.houses(3, 0, 2), 0);
        DUE.is("eight are there", x.count(0), 8);
        DUE.is("the last one's place", x.of(7, 3), 5);
    }

    private static void housesRefused() {
        EiderClimate x = new EiderClimate();
        DUE.is("missing", x.houses(0, 0, 1), 0);
        DUE.is("shelf -1", x.houses(-1, 0, 1), -1);
        DUE.is("shelf 6", x.houses(6, 0, 1), -1);
        DUE.is("n 0", x.houses(0, 0, 0), -1);
        DUE.is("n 9", x.houses(0, 0, 9), -1);
        for (int sort = 0; sort <= 4; sort++) {
            x.row(0, sort, 3);
            DUE.is("row of sort " + sort, x.houses(0, 0, 1), sort == 1 ? 1 : -12);
        }
        x.body(0);
        x.keep(0, 0);
        DUE.is("a stitch", x.houses(0, 0, 1), -12);
        DUE.is("BAD is named before -12", x.houses(0, 0, 9), -1);
        x.keep(0, -1);
        DUE.is("nothing again", x.houses(0, 0, 1), 0);
    }

    private static void housesFromPlacesThatAreNotThere() {
        EiderClimate x = new EiderClimate();
        int[] places = {-1, -2, -3, -1000, Integer.MIN_VALUE, 60, Integer.MAX_VALUE};
        for (int i : places) {
            DUE.is("missing, from " + i, x.houses(0, i, 1), 0);
            DUE.is("missing, eight from " + i, x.houses(5, i, 8), 0);
            DUE.is("shelf 6 from " + i, x.houses(6, i, 1), -1);
            DUE.is("n 0 from " + i, x.houses(0, i, 0), -1);
            DUE.is("n 9 from " + i, x.houses(0, i, 9), -1);
        }
        x.row(1, 1, 60);
        x.row(2, 1, 0);
        x.row(3, 0, 60);
        for (int i : places) {
            DUE.is("shorts from " + i, x.houses(1, i, 8), 0);
            DUE.is("no shorts in it, from " + i, x.houses(2, i, 8), 0);
            DUE.is("bytes from " + i, x.houses(3, i, 8), -12);
        }
        DUE.is("none came", x.count(0), 0);
        DUE.is("from the last three", x.houses(1, 57, 8), 1);
    }

    private static void mendAndOf() {
        EiderClimate x = new EiderClimate();
        x.house(3, 4);
        int[] most = {4, 9, 12, 29, 99, 4095, 11, 12};
        int[] was = {0, 0, 0, 3, 4, 4095, 0, 0};
        for (int what = 0; what < 8; what++) {
            DUE.is("mend to 1", x.mend(0, what, 1), was[what]);
            DUE.is("mend to most", x.mend(0, what, most[what]), 1);
            DUE.is("of", x.of(0, what), most[what]);
            DUE.is("beyond most", x.mend(0, what, most[what] + 1), -1);
            DUE.is("below 0", x.mend(0, what, -1), -1);
            DUE.is("of, unchanged", x.of(0, what), most[what]);
            DUE.is("mend to 0", x.mend(0, what, 0), most[what]);
        }
        DUE.is("another square", x.mend(29, 1, 7), 0);
        DUE.is("of it", x.of(29, 1), 7);
        DUE.is("of others", x.of(28, 1), 0);
    }

    private static void mendRefused() {
        EiderClimate x = new EiderClimate();
        x.house(3, 4);
        for (int what = 0; what < 8; what++) {
            int first = what < 3 ? 30 : 1;
            DUE.is("mend number -1", x.mend(-1, what, 1), -1);
            DUE.is("mend number " + first, x.mend(first, what, 1), -1);
            DUE.is("of number -1", x.of(-1, what), -1);
            DUE.is("of number " + first, x.of(first, what), -1);
        }
        DUE.is("mend what -1", x.mend(0, -1, 1), -1);
        DUE.is("mend what 8", x.mend(0, 8, 1), -1);
        DUE.is("of what -1", x.of(0, -1), -1);
        DUE.is("of what 8", x.of(0, 8), -1);
        DUE.is("no change came of it", x.count(3), 0);
    }
}
