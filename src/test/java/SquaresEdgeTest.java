/** The edges of promises 1 to 5, a test for each sentence of the document that names one. */
public final class SquaresEdgeTest {
    private static final Due DUE = new Due("SquaresEdgeTest");
    private static final Edge LIVED = new Edge(DUE, Edge::live);
    private static final Edge BARE = new Edge(DUE, x -> { });
    private static final Edge EIGHT_HOUSES = new Edge(DUE, SquaresEdgeTest::eightHouses);
    /** What of() and mend() take, by what: the greatest number of it, and the greatest that is mended. */
    private static final int[] MOST = {4, 9, 12, 29, 99, 4095, 11, 12};

    public static void main(String[] args) {
        constants();
        numbersAtFirst();
        nothingAtFirst();
        objectsAreApart();
        housePlaces();
        houseNeeds();
        houseNumbers();
        houseFull();
        housesShelves();
        housesHowMany();
        housesMissing();
        housesOtherKinds();
        housesRowEnds();
        housesFromPlace();
        housesOneIsNotSo();
        housesFullBetween();
        mendSquares();
        mendHouses();
        mendMonthAndSlip();
        mendWhats();
        mendValues();
        mendTheSame();
        ofNumbers();
        DUE.end();
    }

    private static void eightHouses(EiderClimate x) {
        for (int i = 0; i < 8; i++) {
            x.house(3 * i, 10 + i);
        }
    }

    /** "BAD (-1) .. NOT (-2) .. FULL (-3); STATE (-5) .. VOID is -2000000000." */
    private static void constants() {
        DUE.is("BAD", EiderClimate.BAD, -1);
        DUE.is("NOT", EiderClimate.NOT, -2);
        DUE.is("FULL", EiderClimate.FULL, -3);
        DUE.is("STATE", EiderClimate.STATE, -5);
        DUE.is("VOID", EiderClimate.VOID, -2000000000);
    }

    /** "SORT (.. 0 at first), THICK (.. 0 at first), WORN (.. 0 at first) .. MONTH (.. 0 at first). SLIP (.. 0 at first". */
    private static void numbersAtFirst() {
        EiderClimate x = new EiderClimate();
        for (int square = 0; square < 30; square++) {
            for (int what = 0; what <= 2; what++) {
                DUE.is("of(" + square + ", " + what + ")", x.of(square, what), 0);
            }
            DUE.is("no law at first", x.later(0, square, 0), 0);
        }
        DUE.is("MONTH", x.of(0, 6), 0);
        DUE.is("SLIP", x.of(0, 7), 0);
    }

    /** "A thin cover, no houses.", "SHELVES .. each hold nothing (at first)". */
    private static void nothingAtFirst() {
        EiderClimate x = new EiderClimate();
        for (int what = 0; what <= 5; what++) {
            DUE.is("count(" + what + ")", x.count(what), 0);
        }
        for (int what = 0; what <= 4; what++) {
            DUE.is("led(" + what + ")", x.led(what), 0);
        }
        for (int shelf = 0; shelf < 6; shelf++) {
            DUE.is("taken(" + shelf + ", 0)", x.taken(shelf, 0), -11);
            DUE.is("put(" + shelf + ", 0, 1)", x.put(shelf, 0, 1), -11);
        }
        DUE.is("no house", x.of(0, 3), Edge.BAD);
        DUE.is("no image", x.back(), Edge.STATE);
        DUE.is("no change", x.undo(), Edge.STATE);
        DUE.is("none undone", x.redo(), Edge.STATE);
        DUE.is("no trace", x.trace(0), Edge.BAD);
        DUE.is("no stitch", x.act(0, 0, 5), 0);
        DUE.is("an empty tape", x.law(), -100);
    }

    /** "All memory is the class's own." What is told to one object is not told to another. */
    private static void objectsAreApart() {
        EiderClimate before = new EiderClimate();
        Edge.live(new EiderClimate());
        EiderClimate behind = new EiderClimate();
        DUE.holds("objects made before and behind are alike", Edge.whole(before).equals(Edge.whole(behind)));
    }

    /** "under a PLACE (0 .. 29, as of SQUARES)". */
    private static void housePlaces() {
        for (int place : Edge.outside(0, 29)) {
            LIVED.changesNothing("house(" + place + ", 10)", Edge.BAD, x -> x.house(place, 10));
        }
        LIVED.answers("house(0, 10)", 3, x -> x.house(0, 10));
        LIVED.answers("house(29, 10)", 3, x -> x.house(29, 10));
        LIVED.answers("its place, the least", 0, x -> x.of(x.house(0, 10), 3));
        LIVED.answers("its place, the greatest", 29, x -> x.of(x.house(29, 10), 3));
    }

    /** "NEEDS (0 .. 99 warmth", "MONTHS (.. 4095 at first)". */
    private static void houseNeeds() {
        for (int needs : Edge.outside(0, 99)) {
            LIVED.changesNothing("house(5, " + needs + ")", Edge.BAD, x -> x.house(5, needs));
        }
        LIVED.answers("needs nothing", 0, x -> x.of(x.house(5, 0), 4));
        LIVED.answers("needs the most", 99, x -> x.of(x.house(5, 99), 4));
        LIVED.answers("its months", 4095, x -> x.of(x.house(5, 99), 5));
    }

    /** "HOUSES 0 .. 7, as they come". */
    private static void houseNumbers() {
        EiderClimate x = new EiderClimate();
        for (int i = 0; i < 8; i++) {
            DUE.is("its number", x.house(29 - i, 99 - i), i);
            DUE.is("how many", x.count(0), i + 1);
        }
        for (int i = 0; i < 8; i++) {
            DUE.is("its place", x.of(i, 3), 29 - i);
            DUE.is("its needs", x.of(i, 4), 99 - i);
        }
    }

    /** "BAD, FULL: 8." and "of several the one named first". */
    private static void houseFull() {
        EIGHT_HOUSES.changesNothing("a ninth", Edge.FULL, x -> x.house(0, 0));
        EIGHT_HOUSES.changesNothing("a ninth, BAD place", Edge.BAD, x -> x.house(30, 0));
        EIGHT_HOUSES.changesNothing("a ninth, BAD needs", Edge.BAD, x -> x.house(0, 100));
    }

    /** "SHELVES 0 .. 5". */
    private static void housesShelves() {
        for (int shelf : Edge.outside(0, 5)) {
            LIVED.changesNothing("houses(" + shelf + ", 0, 1)", Edge.BAD, x -> x.houses(shelf, 0, 1));
        }
        for (int shelf : new int[] {0, 5}) {
            BARE.answers("houses(" + shelf + ", 0, 1)", 1, x -> {
                Edge.row(x, shelf, 1, 1, 2, 3);
                return x.houses(shelf, 0, 1);
            });
        }
    }

    /** "n (1 .. 8) of them: how many came." */
    private static void housesHowMany() {
        for (int n : Edge.outside(1, 8)) {
            LIVED.changesNothing("houses(1, 0, " + n + ")", Edge.BAD, x -> x.houses(1, 0, n));
            LIVED.changesNothing("of bytes, n " + n, Edge.BAD, x -> x.houses(0, 0, n));
            LIVED.changesNothing("of nothing, n " + n, Edge.BAD, x -> x.houses(4, 0, n));
        }
        for (int n = 1; n <= 8; n++) {
            int asked = n;
            BARE.answers("of eight and more", n, x -> {
                x.row(0, 1, 60);
                return x.houses(0, 0, asked);
            });
            BARE.answers("so many are there", n, x -> {
                x.row(0, 1, 60);
                x.houses(0, 0, asked);
                return x.count(0);
            });
        }
    }

    /** "it ends where the row is missing", "a SHELF that holds nothing is missing". */
    private static void housesMissing() {
        for (int i : new int[] {Integer.MIN_VALUE, -1, 0, 59, 60, Integer.MAX_VALUE}) {
            LIVED.changesNothing("missing, from " + i, 0, x -> x.houses(4, i, 8));
        }
        LIVED.answers("missing again", 0, x -> {
            x.keep(1, -1);
            return x.houses(1, 0, 1);
        });
    }

    /** "-12 (no ROW of shorts". */
    private static void housesOtherKinds() {
        for (int sort : new int[] {0, 2, 3, 4}) {
            for (int size : new int[] {0, 3, 60}) {
                BARE.answers("a row of sort " + sort + " and size " + size, -12, x -> {
                    x.row(2, sort, size);
                    return x.houses(2, 0, 1);
                });
            }
        }
        LIVED.changesNothing("bytes", -12, x -> x.houses(0, 0, 1));
        LIVED.changesNothing("bytes, from -1", -12, x -> x.houses(0, -1, 1));
        LIVED.changesNothing("ints", -12, x -> x.houses(2, 0, 1));
        LIVED.changesNothing("a stitch", -12, x -> x.houses(3, 0, 1));
        LIVED.changesNothing("booleans", -12, x -> x.houses(5, 0, 1));
        EIGHT_HOUSES.answers("full, and no shorts", -12, x -> {
            x.row(2, 0, 3);
            return x.houses(2, 0, 1);
        });
    }

    /** "it ends where the row .. ends (within a three, too)". */
    private static void housesRowEnds() {
        for (int length = 0; length <= 7; length++) {
            int size = length;
            BARE.answers("of " + length + " shorts", length / 3, x -> {
                x.row(0, 1, size);
                return x.houses(0, 0, 8);
            });
        }
        BARE.answers("what is behind the end is not taken", 1, x -> {
            Edge.row(x, 0, 1, 1, 1, 1, 2, 2, 2);
            x.row(0, 1, 5);
            return x.houses(0, 0, 8);
        });
        LIVED.changesNothing("an end at once", 0, x -> x.houses(1, 5, 8));
    }

    /** "from a place on", "from place i on". */
    private static void housesFromPlace() {
        int[] came = {2, 2, 1, 1, 1, 0, 0, 0, 0};
        for (int i = 0; i < came.length; i++) {
            int from = i;
            BARE.answers("seven shorts from " + i, came[i], x -> {
                x.row(0, 1, 7);
                return x.houses(0, from, 8);
            });
        }
        BARE.answers("sixty from 57", 1, x -> Edge.behind(x.row(0, 1, 60), x.houses(0, 57, 8)));
        BARE.answers("sixty from 58", 0, x -> Edge.behind(x.row(0, 1, 60), x.houses(0, 58, 8)));
        for (int i : new int[] {Integer.MIN_VALUE, -3, -1, 7, 60, Integer.MAX_VALUE - 1, Integer.MAX_VALUE}) {
            LIVED.changesNothing("from " + i, 0, x -> x.houses(1, i, 8));
        }
        EiderClimate x = new EiderClimate();
        Edge.row(x, 3, 1, 7, 11, 12, 13, 21, 22, 23);
        DUE.is("from 1", x.houses(3, 1, 8), 2);
        for (int house = 0; house < 2; house++) {
            for (int what = 3; what <= 5; what++) {
                DUE.is("its " + what, x.of(house, what), 10 * (house + 1) + what - 2);
            }
        }
    }

    /** "it ends where .. one is not so": each number at its last and behind it, on each side. */
    private static void housesOneIsNotSo() {
        int[] most = {29, 99, 4095};
        for (int at = 0; at < 3; at++) {
            for (int v : new int[] {-32768, -1, 0, most[at], most[at] + 1, 32767}) {
                long[] row = {4, 4, 4, 5, 5, 5, 6, 6, 6};
                row[3 + at] = v;
                boolean so = v >= 0 && v <= most[at];
                int place = at;
                BARE.answers("number " + at + " is " + v, so ? 3 : 1, x -> {
                    Edge.row(x, 0, 1, row);
                    return x.houses(0, 0, 3);
                });
                BARE.answers("those ahead came, number " + at + " is " + v, so ? v : Edge.BAD, x -> {
                    Edge.row(x, 0, 1, row);
                    x.houses(0, 0, 3);
                    return x.of(1, 3 + place);
                });
            }
        }
        LIVED.changesNothing("the first is not so", 0, x -> x.houses(1, 1, 8));
    }

    /** "it ends where .. HOUSES are FULL: those ahead came." */
    private static void housesFullBetween() {
        for (int had = 0; had <= 8; had++) {
            int ahead = had;
            EiderClimate x = new EiderClimate();
            for (int i = 0; i < ahead; i++) {
                x.house(1, 1);
            }
            x.row(0, 1, 60);
            DUE.is("room for " + (8 - had), x.houses(0, 0, 8), 8 - had);
            DUE.is("full then", x.count(0), 8);
            DUE.is("none more", x.houses(0, 0, 1), 0);
        }
        EIGHT_HOUSES.answers("full, and missing", 0, x -> x.houses(0, 0, 1));
    }

    private static void refusedNumbers(int what, int most) {
        for (int number : Edge.outside(0, most)) {
            LIVED.changesNothing("mend(" + number + ", " + what + ", 1)", Edge.BAD, x -> x.mend(number, what, 1));
            LIVED.changesNothing("of(" + number + ", " + what + ")", Edge.BAD, x -> x.of(number, what));
        }
    }

    /** "SQUARES 0 .. 29". */
    private static void mendSquares() {
        for (int what = 0; what <= 2; what++) {
            refusedNumbers(what, 29);
            for (int square : new int[] {0, 29}) {
                int told = what;
                BARE.answers("mend(" + square + ", " + what + ", 4)", 0, x -> x.mend(square, told, 4));
                BARE.answers("of it", 4, x -> Edge.behind(x.mend(square, told, 4), x.of(square, told)));
            }
        }
    }

    /** "HOUSES 0 .. 7, as they come": those that have not come are no number. */
    private static void mendHouses() {
        for (int what = 3; what <= 5; what++) {
            int told = what;
            refusedNumbers(what, 2);
            BARE.changesNothing("no houses, mend " + what, Edge.BAD, x -> x.mend(0, told, 1));
            BARE.changesNothing("no houses, of " + what, Edge.BAD, x -> x.of(0, told));
            EIGHT_HOUSES.answers("mend the last", 1, x -> {
                x.mend(7, told, 1);
                return x.of(7, told);
            });
            EIGHT_HOUSES.changesNothing("mend behind the last", Edge.BAD, x -> x.mend(8, told, 1));
            EIGHT_HOUSES.changesNothing("of behind the last", Edge.BAD, x -> x.of(8, told));
        }
    }

    /** "MONTH (6), SLIP (7; number 0 for these)". */
    private static void mendMonthAndSlip() {
        refusedNumbers(6, 0);
        refusedNumbers(7, 0);
    }

    /** "(0 to 7)". */
    private static void mendWhats() {
        for (int what : Edge.outside(0, 7)) {
            LIVED.changesNothing("mend(0, " + what + ", 1)", Edge.BAD, x -> x.mend(0, what, 1));
            LIVED.changesNothing("of(0, " + what + ")", Edge.BAD, x -> x.of(0, what));
        }
    }

    /** "SORT (0 .. 4", "THICK (0 .. 9", "WORN (0 .. 12", "PLACE (0 .. 29", and so on. */
    private static void mendValues() {
        for (int what = 0; what < 8; what++) {
            int told = what;
            for (int v : Edge.outside(0, MOST[what])) {
                LIVED.changesNothing("mend(0, " + what + ", " + v + ")", Edge.BAD, x -> x.mend(0, told, v));
            }
            LIVED.answers("mend(0, " + what + ", most)", MOST[what], x -> {
                x.mend(0, told, MOST[told]);
                return x.of(0, told);
            });
            LIVED.answers("mend(0, " + what + ", 0)", 0, x -> {
                x.mend(0, told, MOST[told]);
                x.mend(0, told, 0);
                return x.of(0, told);
            });
            LIVED.answers("what it was: most", MOST[what], x -> {
                x.mend(0, told, MOST[told]);
                return x.mend(0, told, 0);
            });
        }
    }

    /** "becomes v: what it was", "telling the same number is none". */
    private static void mendTheSame() {
        LIVED.changesNothing("mend(7, 0, 3) again", 3, x -> x.mend(7, 0, 3));
        LIVED.changesNothing("mend(0, 3, 7) again", 7, x -> x.mend(0, 3, 7));
        LIVED.changesNothing("mend(0, 7, 5) again", 5, x -> x.mend(0, 7, 5));
    }

    /** "As of mend()": each number that is told is told back, and none beside it. */
    private static void ofNumbers() {
        EiderClimate x = new EiderClimate();
        for (int square = 0; square < 30; square++) {
            x.mend(square, 0, square % 5);
            x.mend(square, 1, square % 10);
            x.mend(square, 2, square % 13);
        }
        for (int square = 0; square < 30; square++) {
            DUE.is("sort of " + square, x.of(square, 0), square % 5);
            DUE.is("thick of " + square, x.of(square, 1), square % 10);
            DUE.is("worn of " + square, x.of(square, 2), square % 13);
        }
        LIVED.changesNothing("of(7, 0)", 3, y -> y.of(7, 0));
    }
}
