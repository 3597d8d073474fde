/** Promises 15 to 20: judge, felt, walk, patches, byTurns, drawn. */
public final class FeltTest {
    private static final Due DUE = new Due("FeltTest");

    public static void main(String[] args) {
        judge();
        judgeRefused();
        longRow();
        felt();
        walk();
        patches();
        byTurns();
        byTurnsRefused();
        drawn();
        drawnRefused();
        DUE.end();
    }

    private static void square(EiderClimate x, int square, int sort, int thick, int worn) {
        x.mend(square, 0, sort);
        x.mend(square, 1, thick);
        x.mend(square, 2, worn);
    }

    private static void tell(EiderClimate x, String text) {
        for (int i = 0; i < text.length(); i++) {
            x.feed(text.charAt(i));
        }
        DUE.is("law", x.law(), 1);
    }

    private static void bytes(EiderClimate x, int shelf, int... values) {
        x.row(shelf, 0, values.length);
        for (int i = 0; i < values.length; i++) {
            x.put(shelf, i, values[i]);
        }
    }

    private static void judge() {
        EiderClimate x = new EiderClimate();
        square(x, 9, 3, 4, 2);
        bytes(x, 5, 10, 9, 8, 7);
        DUE.is("all is so", x.judge(509), -2);
        DUE.is("elsewhere it is not", x.judge(508), 0);
        x.put(5, 2, 7);
        DUE.is("the third is not", x.judge(509), 2);
        x.put(5, 0, 266);
        DUE.is("266 is kept as 10", x.judge(509), 2);
        x.put(5, 0, 0);
        DUE.is("the first is not", x.judge(509), 0);
        bytes(x, 5, -1);
        DUE.is("below 0 is never felt", x.judge(508), 0);
    }

    private static void judgeRefused() {
        EiderClimate x = new EiderClimate();
        DUE.is("nothing", x.judge(0), -11);
        DUE.is("below 0", x.judge(-1), -1);
        DUE.is("place 30", x.judge(30), -1);
        DUE.is("place 99", x.judge(99), -1);
        DUE.is("shelf 6", x.judge(600), -1);
        DUE.is("far", x.judge(Integer.MAX_VALUE), -1);
        DUE.is("far below", x.judge(Integer.MIN_VALUE), -1);
        for (int sort = 0; sort <= 4; sort++) {
            x.row(3, sort, 0);
            DUE.is("sort " + sort, x.judge(300), sort == 0 ? -2 : -12);
            DUE.is("felt by sort " + sort, x.felt(300, 0, 0), sort == 0 ? 31 : -12);
        }
        x.body(3);
        x.keep(3, 0);
        DUE.is("a stitch", x.judge(300), -12);
        DUE.is("felt by a stitch", x.felt(300, 0, 0), -12);
        DUE.is("BAD is named before -12", x.felt(300, 30, 0), -1);
        DUE.is("felt by nothing", x.felt(0, 0, 0), -11);
        DUE.is("BAD is named before -11", x.felt(0, -1, 0), -1);
        x.row(3, 0, 0);
        DUE.is("felt what -1", x.felt(300, 0, -1), -1);
        DUE.is("felt what 5", x.felt(300, 0, 5), -1);
        DUE.is("felt sp", x.felt(330, 0, 0), -1);
        DUE.is("felt sp", x.felt(-1, 0, 0), -1);
    }

    private static void longRow() {
        EiderClimate x = new EiderClimate();
        tell(x, "m+1");
        x.row(0, 0, 60);
        for (int i = 0; i < 49; i++) {
            x.put(0, i, i % 12 + 1);
        }
        DUE.is("49 at most count", x.judge(0), -2);
        x.put(0, 48, 0);
        DUE.is("the last that counts", x.judge(0), 48);
    }

    private static void felt() {
        EiderClimate x = new EiderClimate();
        square(x, 9, 3, 4, 2);
        bytes(x, 0, 10, 9);
        DUE.is("sorts", x.felt(9, 9, 0), 8);
        DUE.is("thicks", x.felt(9, 9, 1), 1);
        DUE.is("least thick", x.felt(9, 9, 2), 4);
        DUE.is("worns", x.felt(9, 9, 3), 1);
        DUE.is("least worn", x.felt(9, 9, 4), 2);
        // what is beside it counts by fours, cut
        DUE.is("any sort of the next", x.felt(9, 10, 0), 31);
        DUE.is("thin ones of the next", x.felt(9, 10, 1), 4);
        DUE.is("least", x.felt(9, 10, 2), 0);
        DUE.is("any worn of the next", x.felt(9, 10, 3), 13);
        bytes(x, 0, 11);
        DUE.is("thicks of the next", x.felt(9, 10, 1), 4);
        DUE.is("least", x.felt(9, 10, 2), 4);
        DUE.is("no sort", x.felt(9, 10, 0), 0);
        DUE.is("no worn", x.felt(9, 10, 3), 0);
        DUE.is("no least worn", x.felt(9, 10, 4), -2);
        bytes(x, 0, 0);
        DUE.is("worns that leave nothing", x.felt(9, 9, 3), 1);
        DUE.is("least", x.felt(9, 9, 4), 12);
        DUE.is("sort that leaves nothing", x.felt(9, 9, 0), 1);
        DUE.is("no thick but none", x.felt(9, 9, 1), 1);
        DUE.is("none", x.felt(9, 9, 2), 0);
        bytes(x, 0, 50);
        DUE.is("nothing fits", x.felt(9, 9, 1), 0);
        DUE.is("nothing fits: least", x.felt(9, 9, 2), -2);
        DUE.is("unchanged", x.of(9, 1), 4);
        DUE.is("unchanged", x.of(9, 0), 3);
    }

    private static void walk() {
        EiderClimate x = new EiderClimate();
        tell(x, "t");
        for (int square = 0; square < 30; square++) {
            x.mend(square, 1, 3);
        }
        DUE.is("straight", x.walk(5, 0), 3);
        DUE.is("five steps", x.walk(5, 1), 5);
        x.mend(2, 1, 2);
        DUE.is("round the cold one", x.walk(5, 0), 3);
        DUE.is("seven steps", x.walk(5, 1), 7);
        x.mend(5, 1, 1);
        DUE.is("a cold end counts", x.walk(5, 0), 1);
        DUE.is("then straight on", x.walk(5, 1), 5);
        DUE.is("a cold start counts", x.walk(500, 0), 1);
        DUE.is("to itself", x.walk(505, 0), 1);
        DUE.is("no step", x.walk(505, 1), 0);
        x.mend(0, 1, 9);
        DUE.is("to itself, warm", x.walk(0, 0), 9);
        DUE.is("corners", x.walk(29, 1), 9);
        DUE.is("not round the rim", x.walk(2429, 1), 5);
        DUE.is("from below 0", x.walk(-1, 0), -1);
        DUE.is("to 30", x.walk(30, 0), -1);
        DUE.is("from 30", x.walk(3000, 0), -1);
        DUE.is("far", x.walk(Integer.MAX_VALUE, 0), -1);
        DUE.is("what -1", x.walk(0, -1), -1);
        DUE.is("what 2", x.walk(0, 2), -1);
        for (int square = 0; square < 30; square++) {
            x.mend(square, 1, 9);
        }
        for (int square : new int[] {1, 7, 13, 19, 10, 16, 22, 28}) {
            x.mend(square, 1, 0);
        }
        DUE.is("a long way", x.walk(5, 0), 9);
        DUE.is("a long way's steps", x.walk(5, 1), 4 + 3 + 4 + 2);
        // each place must be left and reached from each side
        for (int from = 0; from < 30; from++) {
            for (int to = 0; to < 30; to++) {
                if (Math.abs(from / 6 - to / 6) + Math.abs(from % 6 - to % 6) == 1) {
                    EiderClimate two = new EiderClimate();
                    tell(two, "t");
                    two.mend(from, 1, 2);
                    two.mend(to, 1, 3);
                    DUE.is("walk " + from + " to " + to, two.walk(100 * from + to, 0), 2);
                    DUE.is("its step", two.walk(100 * from + to, 1), 1);
                }
            }
        }
    }

    private static void patches() {
        EiderClimate x = new EiderClimate();
        DUE.is("none", x.patches(0), 0);
        DUE.is("none is greatest", x.patches(1), 0);
        square(x, 5, 1, 1, 0);
        square(x, 6, 1, 1, 0);
        DUE.is("not round the rim", x.patches(0), 2);
        square(x, 0, 1, 1, 0);
        DUE.is("0 and 6", x.patches(0), 2);
        DUE.is("two", x.patches(1), 2);
        square(x, 7, 2, 9, 0);
        DUE.is("another sort", x.patches(0), 3);
        square(x, 13, 1, 9, 0);
        DUE.is("no corners", x.patches(0), 4);
        square(x, 12, 1, 9, 0);
        DUE.is("joined", x.patches(0), 3);
        DUE.is("four", x.patches(1), 4);
        x.mend(6, 1, 0);
        DUE.is("parted", x.patches(0), 4);
        DUE.is("what -1", x.patches(-1), -1);
        DUE.is("what 2", x.patches(2), -1);
        for (int square = 0; square < 30; square++) {
            square(x, square, 0, 1, 0);
        }
        DUE.is("sort 0 is one", x.patches(0), 1);
        DUE.is("all", x.patches(1), 30);
    }

    private static void byTurns() {
        EiderClimate x = new EiderClimate();
        tell(x, "t");
        x.house(0, 0);
        x.house(6, 0);
        x.mend(1, 1, 5);
        x.mend(11, 1, 7);
        DUE.is("the first pulls", x.byTurns(1, 1, 1, 0), 5);
        DUE.is("to the left", x.byTurns(1, 1, 1, 1), 1);
        DUE.is("then the other", x.byTurns(1, 1, 2, 0), -2);
        DUE.is("as before", x.byTurns(1, 1, 2, 1), 1);
        DUE.is("the other way about", x.byTurns(10, 10, 1, 0), 7);
        DUE.is("to the right", x.byTurns(10, 10, 1, 1), 0);
        // he pulls a row that is neither's: nothing first
        DUE.is("rows of no use", x.byTurns(1, 34, 4, 0), 0);
        DUE.is("nothing first", x.byTurns(1, 34, 4, 1), 2);
        x.mend(5, 1, 5);
        DUE.is("either way is as good", x.byTurns(1, 1, 1, 1), 0);
        x.mend(0, 1, 5);
        DUE.is("nothing is as good", x.byTurns(1, 1, 1, 1), 2);
        // the first may pull what lies over the other: away with it
        x.mend(6, 1, 9);
        DUE.is("the other's row", x.byTurns(1, 12, 1, 0), 5);
        DUE.is("to the left, 7 not over it", x.byTurns(1, 12, 1, 1), 1);
        DUE.is("unchanged", x.of(6, 1), 9);
        DUE.is("not led", x.led(1), 0);
    }

    private static void byTurnsRefused() {
        EiderClimate x = new EiderClimate();
        int none = EiderClimate.VOID;
        DUE.is("no houses", x.byTurns(1, 1, 1, 0), none);
        x.house(0, 0);
        DUE.is("one house", x.byTurns(1, 1, 1, 0), none);
        x.house(0, 0);
        DUE.is("two", x.byTurns(1, 1, 1, 0), 0);
        DUE.is("two, what 1", x.byTurns(1, 1, 1, 1), 2);
        DUE.is("like houses", x.byTurns(11, 1, 1, 0), none);
        DUE.is("no third", x.byTurns(2, 1, 1, 0), none);
        DUE.is("no third", x.byTurns(21, 1, 1, 0), none);
        DUE.is("below 0", x.byTurns(-1, 1, 1, 0), none);
        DUE.is("far", x.byTurns(Integer.MIN_VALUE, 1, 1, 0), none);
        DUE.is("like rows", x.byTurns(1, 22, 1, 0), none);
        DUE.is("row 5", x.byTurns(1, 5, 1, 0), none);
        DUE.is("row 5", x.byTurns(1, 50, 1, 0), none);
        DUE.is("rows below 0", x.byTurns(1, -1, 1, 0), none);
        DUE.is("row 4", x.byTurns(1, 4, 1, 0), 0);
        DUE.is("n 0", x.byTurns(1, 1, 0, 0), none);
        DUE.is("n 5", x.byTurns(1, 1, 5, 0), none);
        DUE.is("n 4", x.byTurns(1, 1, 4, 0), 0);
        DUE.is("what -1", x.byTurns(1, 1, 1, -1), none);
        DUE.is("what 2", x.byTurns(1, 1, 1, 2), none);
    }

    private static void drawn() {
        EiderClimate x = new EiderClimate();
        x.house(0, 1);
        x.house(1, 0);
        x.house(2, 1);
        DUE.is("bare: two are always cold", x.drawn(17, 3024, -1), 2 * 720);
        DUE.is("one of them", x.drawn(17, 3024, 0), 720);
        DUE.is("the other needs nothing", x.drawn(17, 3024, 1), 0);
        x.mend(2, 5, 1);
        DUE.is("in one month", x.drawn(17, 124, 2), 2);
        x.mend(2, 5, 1 << 11);
        DUE.is("each year is from now", x.drawn(17, 3011, 2), 0);
        DUE.is("each year is from now", x.drawn(17, 3012, 2), 30);
        gale();
        moth();
        DUE.is("nothing passed", x.led(0), 0);
    }

    /** With seed 0 z is 12345: 48 % 3 is 0, a gale; 12345 >>> 16 is 0. */
    private static void gale() {
        EiderClimate x = new EiderClimate();
        square(x, 0, 4, 9, 0);
        x.house(1, 30);
        DUE.is("cold now", x.cold(0, 0), 1);
        DUE.is("pulled over it", x.drawn(0, 101, 0), 0);
        DUE.is("in deed not", x.of(0, 1), 9);
    }

    private static void moth() {
        int seed = 0;
        while ((next(seed) >>> 8) % 3 != 1) {
            seed++;
        }
        int square = (next(seed) >>> 16) % 30;
        EiderClimate x = new EiderClimate();
        tell(x, "t");
        x.house(square, 4);
        x.mend(square, 1, 4);
        DUE.is("warm now", x.cold(0, 0), 0);
        DUE.is("eaten", x.drawn(seed, 101, 0), 1);
        x.mend(square, 1, 5);
        DUE.is("enough is left", x.drawn(seed, 101, 0), 0);
        x.mend(square, 1, 0);
        tell(x, "9+t");
        x.mend(0, 4, 9);
        DUE.is("not below 0", x.drawn(seed, 101, 0), 0);
    }

    private static int next(int z) {
        return z * 1103515245 + 12345;
    }

    private static void drawnRefused() {
        EiderClimate x = new EiderClimate();
        DUE.is("all of none", x.drawn(1, 101, -1), 0);
        DUE.is("no house", x.drawn(1, 101, 0), -1);
        DUE.is("house -2", x.drawn(1, 101, -2), -1);
        DUE.is("no months", x.drawn(1, 100, -1), -1);
        DUE.is("25 months", x.drawn(1, 125, -1), -1);
        DUE.is("no years", x.drawn(1, 24, -1), -1);
        DUE.is("31 years", x.drawn(1, 3101, -1), -1);
        DUE.is("30 years of 24", x.drawn(1, 3024, -1), 0);
        DUE.is("below 0", x.drawn(1, -101, -1), -1);
        DUE.is("far", x.drawn(1, Integer.MIN_VALUE, -1), -1);
    }
}
