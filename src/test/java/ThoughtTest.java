/** Promises 8 to 14: later, cold, first, often, pulls, shakes, stuffs. */
public final class ThoughtTest {
    private static final Due DUE = new Due("ThoughtTest");

    public static void main(String[] args) {
        wearing();
        slipping();
        laterRefused();
        cold();
        firstAndOften();
        pulls();
        pullsOfThree();
        shakes();
        stuffs();
        nothingChanges();
        DUE.end();
    }

    private static void square(EiderClimate x, int square, int sort, int thick, int worn) {
        x.mend(square, 0, sort);
        x.mend(square, 1, thick);
        x.mend(square, 2, worn);
    }

    private static void tell(EiderClimate x, String text) {
        for (int i = 0; i < text.length(); i++) {
            x.feed(text.charAt(i));
        }
        DUE.is("law", x.law(), 1);
    }

    private static void wearing() {
        EiderClimate x = new EiderClimate();
        square(x, 0, 4, 2, 10);
        square(x, 1, 4, 0, 5);
        square(x, 2, 3, 1, 12);
        DUE.is("worn now", x.later(0, 0, 3), 10);
        DUE.is("worn, one month", x.later(1, 0, 3), 11);
        DUE.is("thick, one month", x.later(1, 0, 2), 2);
        DUE.is("worn out: worn", x.later(2, 0, 3), 0);
        DUE.is("worn out: thick", x.later(2, 0, 2), 1);
        DUE.is("worn out again", x.later(14, 0, 2), 0);
        DUE.is("one month before", x.later(13, 0, 3), 11);
        DUE.is("bare: worn stays", x.later(20, 0, 3), 0);
        DUE.is("without thick worn stays", x.later(48, 1, 3), 5);
        DUE.is("sort stays", x.later(48, 0, 1), 4);
        DUE.is("twelve at once", x.later(1, 2, 2), 0);
        DUE.is("twelve at once: worn", x.later(1, 2, 3), 0);
        // 4 * 2 + (0 + 0) / 4 - 10 is held at 0
        DUE.is("not below 0", x.later(0, 0, 0), 0);
        tell(x, "t*9999");
        DUE.is("not above 99", x.later(0, 0, 0), 99);
    }

    private static void slipping() {
        EiderClimate x = new EiderClimate();
        square(x, 1, 1, 9, 0);
        square(x, 25, 3, 8, 4);
        x.mend(0, 7, 3);
        DUE.is("two months: not yet", x.later(2, 7, 1), 0);
        DUE.is("three months: one down", x.later(3, 7, 1), 1);
        DUE.is("its worn comes along", x.later(3, 7, 3), 3);
        DUE.is("from the sea to Y 0", x.later(3, 1, 1), 3);
        DUE.is("its thick", x.later(3, 1, 2), 8);
        DUE.is("its worn", x.later(3, 1, 3), 7);
        DUE.is("where it was", x.later(3, 25, 1), 0);
        DUE.is("six months", x.later(6, 13, 1), 1);
        DUE.is("round in fifteen", x.later(15, 1, 1), 1);
        x.month();
        DUE.is("months in deed count", x.later(1, 7, 1), 0);
        DUE.is("months in deed count: slips", x.later(2, 7, 1), 1);
        x.mend(0, 7, 0);
        DUE.is("never", x.later(48, 1, 1), 1);
        x.mend(0, 7, 1);
        DUE.is("each month", x.later(1, 7, 1), 1);
        x.mend(0, 7, 12);
        DUE.is("behind ten more no", x.later(10, 7, 1), 0);
        DUE.is("behind eleven more", x.later(11, 7, 1), 1);
    }

    private static void laterRefused() {
        EiderClimate x = new EiderClimate();
        DUE.is("n -1", x.later(-1, 0, 0), -1);
        DUE.is("n 49", x.later(49, 0, 0), -1);
        DUE.is("n 48", x.later(48, 0, 0), 0);
        DUE.is("place -1", x.later(0, -1, 0), -1);
        DUE.is("place 30", x.later(0, 30, 0), -1);
        DUE.is("what -1", x.later(0, 0, -1), -1);
        DUE.is("what 4", x.later(0, 0, 4), -1);
        DUE.is("cold n -1", x.cold(-1, 0), -1);
        DUE.is("cold n 49", x.cold(49, 0), -1);
        DUE.is("cold what -1", x.cold(0, -1), -1);
        DUE.is("cold what 2", x.cold(0, 2), -1);
        DUE.is("first", x.first(-1), -1);
        DUE.is("first", x.first(0), -1);
        x.house(0, 5);
        DUE.is("first", x.first(1), -1);
        DUE.is("often house", x.often(1, 0), -1);
        DUE.is("often n", x.often(0, -1), -1);
        DUE.is("often n", x.often(0, 49), -1);
        DUE.is("pulls house", x.pulls(1, 0), -1);
        DUE.is("pulls house", x.pulls(-1, 0), -1);
        DUE.is("pulls k", x.pulls(0, -2), -1);
        DUE.is("shakes", x.shakes(-1), -1);
        DUE.is("shakes", x.shakes(2), -1);
        DUE.is("stuffs k", x.stuffs(-1, 0), -1);
        DUE.is("stuffs k", x.stuffs(3, 0), -1);
        DUE.is("stuffs what", x.stuffs(0, -1), -1);
        DUE.is("stuffs what", x.stuffs(0, 2), -1);
    }

    private static void cold() {
        EiderClimate x = new EiderClimate();
        square(x, 9, 2, 5, 0);
        x.house(9, 10);
        x.house(9, 11);
        x.house(0, 0);
        x.house(0, 1);
        x.mend(3, 5, 1 << 1 | 1 << 11);
        DUE.is("as much as needed is enough", x.cold(0, 0), 2);
        DUE.is("in a month of its own", x.cold(1, 0), 1 | 2 | 8);
        DUE.is("in another", x.cold(2, 0), 1 | 2);
        DUE.is("in the last one", x.cold(11, 0), 1 | 2 | 8);
        DUE.is("behind a year", x.cold(13, 0), 1 | 2 | 8);
        DUE.is("warmest", x.cold(0, 1), 9);
        square(x, 4, 2, 5, 0);
        DUE.is("of like ones the least", x.cold(0, 1), 4);
        tell(x, "m*10");
        x.mend(0, 6, 9);
        DUE.is("the law's month", x.cold(0, 0), 0);
        DUE.is("warm in month 11 yet", x.cold(2, 0), 0);
        DUE.is("month 0 is behind 11", x.cold(3, 0), 1 | 2);
        DUE.is("all like", x.cold(3, 1), 0);
    }

    private static void firstAndOften() {
        EiderClimate x = new EiderClimate();
        square(x, 9, 2, 5, 0);
        x.house(9, 5);
        DUE.is("first", x.first(0), 6);
        DUE.is("often to 5", x.often(0, 5), 0);
        DUE.is("often to 6", x.often(0, 6), 1);
        // worn 6 to 11 leave less than 5; then 2 * 4 less 0 to 11: cold from 4 to 11
        DUE.is("often to 11", x.often(0, 11), 6);
        DUE.is("often to 12", x.often(0, 12), 6);
        DUE.is("often to 16", x.often(0, 16), 7);
        x.mend(0, 5, 1 << 7);
        DUE.is("first in its month", x.first(0), 7);
        x.mend(0, 5, 1 << 3);
        // month 3 comes behind 3, 15, 27, 39 months: warmth 7, 5, 3, 1
        DUE.is("first in the third year", x.first(0), 27);
        DUE.is("often in all", x.often(0, 48), 2);
        x.mend(0, 5, 0);
        DUE.is("never", x.first(0), -2);
        DUE.is("never at all", x.often(0, 48), 0);
        x.mend(0, 5, 1);
        x.mend(0, 4, 1);
        // month 0 comes behind 0, 12, 24, 36, 48: 10, 8, 6, 4, 2
        DUE.is("warm in each", x.first(0), -2);
        x.mend(0, 4, 3);
        DUE.is("behind 48", x.first(0), 48);
        DUE.is("at once", firstAtOnce(), 0);
    }

    private static int firstAtOnce() {
        EiderClimate x = new EiderClimate();
        x.house(0, 1);
        return x.first(0);
    }

    private static void pulls() {
        EiderClimate x = new EiderClimate();
        tell(x, "t");
        x.house(8, 5);
        DUE.is("none helps", x.pulls(0, -1), -2);
        DUE.is("none helps: which", x.pulls(0, 0), -2);
        x.mend(10, 1, 5);
        DUE.is("two to the left", x.pulls(0, -1), 2);
        DUE.is("the first", x.pulls(0, 0), 3);
        DUE.is("the second", x.pulls(0, 1), 3);
        DUE.is("no third", x.pulls(0, 2), -2);
        DUE.is("no such", x.pulls(0, Integer.MAX_VALUE), -2);
        x.mend(11, 1, 5);
        x.mend(10, 1, 0);
        // three either way: to the right is the lesser number
        DUE.is("three", x.pulls(0, -1), 3);
        DUE.is("to the right", x.pulls(0, 0), 2);
        x.mend(7, 1, 5);
        DUE.is("one", x.pulls(0, -1), 1);
        DUE.is("to the right", x.pulls(0, 0), 2);
        x.mend(8, 1, 5);
        DUE.is("none is needed", x.pulls(0, -1), 0);
        DUE.is("none is needed: which", x.pulls(0, 0), -2);
        x.mend(8, 1, 0);
        x.mend(0, 5, 4094);
        DUE.is("no month of its", x.pulls(0, -1), 0);
    }

    private static void pullsOfThree() {
        EiderClimate x = new EiderClimate();
        tell(x, "n");
        x.house(14, 27);
        x.mend(9, 1, 9);
        x.mend(19, 1, 9);
        x.mend(14, 1, 9);
        // row 1 to the left, row 3 to the right, row 2 either way bring three beside
        DUE.is("three rows", x.pulls(0, -1), 3);
        DUE.is("first", x.pulls(0, 0), 3);
        DUE.is("second", x.pulls(0, 1), 4);
        DUE.is("third", x.pulls(0, 2), 6);
        x.mend(0, 4, 28);
        DUE.is("not to be had", x.pulls(0, -1), -2);
        DUE.is("not to be had: which", x.pulls(0, 2), -2);
    }

    private static void shakes() {
        EiderClimate x = new EiderClimate();
        tell(x, "t");
        x.mend(8, 1, 9);
        x.mend(9, 1, 8);
        DUE.is("no houses: the least", x.shakes(0), 7);
        DUE.is("no houses: none", x.shakes(1), 0);
        x.house(16, 1);
        // at 9: 17 by nine gives each one; at 10, 15 only 8 come together, too few for each
        DUE.is("one comes to 16", x.shakes(1), 0);
        DUE.is("from 9", x.shakes(0), 9);
        x.house(8, 9);
        DUE.is("both are warm", x.shakes(1), 0);
        DUE.is("at 16 all goes to the middle, and 8 stays", x.shakes(0), 16);
        x.mend(0, 3, 21);
        x.mend(0, 4, 0);
        DUE.is("of like ones the least", x.shakes(0), 8);
        x.mend(1, 4, 0);
        DUE.is("of all", x.shakes(0), 7);
    }

    private static void stuffs() {
        EiderClimate x = new EiderClimate();
        x.house(4, 18);
        x.house(11, 18);
        x.house(29, 5);
        DUE.is("none: how many", x.stuffs(0, 0), 3);
        DUE.is("none: which", x.stuffs(0, 1), -9);
        DUE.is("one: how many", x.stuffs(1, 0), 2);
        DUE.is("one: which", x.stuffs(1, 1), 4);
        DUE.is("two: how many", x.stuffs(2, 0), 1);
        DUE.is("two: which", x.stuffs(2, 1), 30 * 4 + 11);
        x.mend(0, 4, 0);
        DUE.is("one: how many", x.stuffs(1, 0), 1);
        DUE.is("one: which", x.stuffs(1, 1), 11);
        DUE.is("two: which", x.stuffs(2, 1), 30 * 11 + 29);
        tell(x, "s=2?0;50");
        DUE.is("stuffing may do harm", x.stuffs(1, 1), 0);
        x.mend(2, 3, 0);
        x.mend(1, 3, 1);
        x.mend(0, 3, 2);
        x.mend(0, 4, 1);
        DUE.is("away from the houses", x.stuffs(1, 1), 3);
        DUE.is("two away from the houses", x.stuffs(2, 1), 94);
        DUE.is("none is cold", x.stuffs(2, 0), 0);
    }

    private static void nothingChanges() {
        EiderClimate x = new EiderClimate();
        square(x, 7, 2, 5, 11);
        x.house(7, 50);
        x.mend(0, 7, 1);
        x.later(48, 3, 0);
        x.cold(48, 0);
        x.first(0);
        x.often(0, 48);
        x.pulls(0, -1);
        x.shakes(0);
        x.stuffs(2, 0);
        DUE.is("sort", x.of(7, 0), 2);
        DUE.is("thick", x.of(7, 1), 5);
        DUE.is("worn", x.of(7, 2), 11);
        DUE.is("month", x.of(0, 6), 0);
        for (int what = 0; what < 5; what++) {
            DUE.is("led", x.led(what), 0);
        }
        DUE.is("squares", x.count(1), 1);
    }
}
