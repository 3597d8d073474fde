/** The edges of promises 8 to 14, a test for each sentence of the document that names one. */
public final class ThoughtEdgeTest {
    private static final Due DUE = new Due("ThoughtEdgeTest");
    private static final Edge LIVED = new Edge(DUE, Edge::live);
    private static final Edge BARE = new Edge(DUE, x -> { });

    public static void main(String[] args) {
        laterMonths();
        laterPlaces();
        laterWhats();
        wearsAtTwelve();
        wearsToNothing();
        wearsOnlyStuffed();
        slipsAtMultiples();
        slipsCountMonthsInDeed();
        slipsRound();
        slipsNever();
        monthsGoRound();
        feltBeforeTheMonthPasses();
        coldMonthsAndWhats();
        coldIsLessThanNeeds();
        coldInItsMonths();
        coldHouses();
        warmestOfLikeOnes();
        firstHouses();
        firstFrom0To48();
        oftenHousesAndMonths();
        oftenCountsBothEnds();
        pullsHousesAndK();
        pullsFrom0To3();
        pullsOfLikeOnes();
        pullsInNoMonthOfIts();
        shakesWhats();
        shakesAtEachSquare();
        shakesOfLikeOnes();
        allAreCold();
        stuffsHowManyAndWhats();
        stuffsAtEachSquare();
        stuffsOfLikeOnes();
        stuffsAnew();
        DUE.end();
    }

    private static EiderClimate byLaw(String text) {
        EiderClimate x = new EiderClimate();
        DUE.is("law", Edge.tell(x, text), 1);
        return x;
    }

    /** "behind n (0 .. 48) months". */
    private static void laterMonths() {
        for (int n : Edge.outside(0, 48)) {
            LIVED.changesNothing("later(" + n + ", 7, 0)", Edge.BAD, x -> x.later(n, 7, 0));
        }
        LIVED.changesNothing("later(0, 7, 1)", 3, x -> x.later(0, 7, 1));
        EiderClimate x = new EiderClimate();
        Edge.square(x, 3, 2, 9, 0);
        DUE.is("behind 0", x.later(0, 3, 0), 18);
        DUE.is("behind 1", x.later(1, 3, 0), 17);
        DUE.is("behind 47: thick", x.later(47, 3, 2), 6);
        DUE.is("behind 47: worn", x.later(47, 3, 3), 11);
        DUE.is("behind 48: thick", x.later(48, 3, 2), 5);
        DUE.is("behind 48: worn", x.later(48, 3, 3), 0);
    }

    /** "warmth at a PLACE; SORT, THICK, WORN of a SQUARE": 0 .. 29. */
    private static void laterPlaces() {
        for (int place : Edge.outside(0, 29)) {
            for (int what = 0; what <= 3; what++) {
                int asked = what;
                LIVED.changesNothing("later(0, " + place + ", " + what + ")", Edge.BAD, x -> x.later(0, place, asked));
            }
        }
        EiderClimate x = new EiderClimate();
        Edge.square(x, 0, 3, 4, 5);
        Edge.square(x, 29, 4, 3, 2);
        int[] atFirst = {7, 3, 4, 5};
        int[] atLast = {10, 4, 3, 2};
        for (int what = 0; what <= 3; what++) {
            DUE.is("place 0, " + what, x.later(0, 0, what), atFirst[what]);
            DUE.is("place 29, " + what, x.later(0, 29, what), atLast[what]);
        }
    }

    /** "warmth (what 0), SORT (1), THICK (2), WORN (3)". */
    private static void laterWhats() {
        for (int what : Edge.outside(0, 3)) {
            LIVED.changesNothing("later(0, 0, " + what + ")", Edge.BAD, x -> x.later(0, 0, what));
        }
        LIVED.changesNothing("sort", 1, x -> x.later(1, 0, 1));
        LIVED.changesNothing("thick", 9, x -> x.later(1, 0, 2));
        LIVED.changesNothing("worn", 7, x -> x.later(1, 0, 3));
    }

    /** "WORN .. is one more (12 at most; at 12 its THICK is one less .. and WORN 0)". */
    private static void wearsAtTwelve() {
        int[] worns = {0, 9, 10, 11, 12};
        int[] then = {1, 10, 11, 0, 0};
        for (int i = 0; i < worns.length; i++) {
            EiderClimate x = new EiderClimate();
            Edge.square(x, 3, 2, 9, worns[i]);
            DUE.is("thought, worn of " + worns[i], x.later(1, 3, 3), then[i]);
            DUE.is("thought, thick by worn " + worns[i], x.later(1, 3, 2), then[i] == 0 ? 8 : 9);
            DUE.is("thought, sort by worn " + worns[i], x.later(1, 3, 1), 2);
            x.month();
            DUE.is("in deed, worn of " + worns[i], x.of(3, 2), then[i]);
            DUE.is("in deed, thick by worn " + worns[i], x.of(3, 1), then[i] == 0 ? 8 : 9);
            DUE.is("in deed, sort by worn " + worns[i], x.of(3, 0), 2);
        }
    }

    /** "its THICK is one less, 0 at least". */
    private static void wearsToNothing() {
        EiderClimate x = new EiderClimate();
        Edge.square(x, 3, 2, 1, 11);
        DUE.is("thick", x.later(1, 3, 2), 0);
        DUE.is("worn", x.later(1, 3, 3), 0);
        for (int n = 2; n <= 48; n += 23) {
            DUE.is("thick behind " + n, x.later(n, 3, 2), 0);
            DUE.is("worn behind " + n, x.later(n, 3, 3), 0);
        }
        x.month();
        x.month();
        DUE.is("in deed, thick", x.of(3, 1), 0);
        DUE.is("in deed, worn", x.of(3, 2), 0);
    }

    /** "WORN of each SQUARE with THICK above 0". */
    private static void wearsOnlyStuffed() {
        for (int worn = 0; worn <= 12; worn += 4) {
            EiderClimate x = new EiderClimate();
            Edge.square(x, 3, 4, 0, worn);
            Edge.square(x, 29, 0, 1, 0);
            DUE.is("without thick", x.later(1, 3, 3), worn);
            DUE.is("without thick, behind 48", x.later(48, 3, 3), worn);
            DUE.is("no thick of it", x.later(48, 3, 2), 0);
            DUE.is("without a sort it wears", x.later(1, 29, 3), 1);
        }
    }

    /** "the number of months that have passed (this one, too) is a multiple of it". */
    private static void slipsAtMultiples() {
        for (int slip = 1; slip <= 12; slip++) {
            EiderClimate x = new EiderClimate();
            x.mend(0, 0, 4);
            x.mend(0, 7, slip);
            for (int n = 0; n <= 48; n++) {
                DUE.is("slip " + slip + ", behind " + n, x.later(n, n / slip % 5 * 6, 1), 4);
            }
        }
    }

    /** "from now (as many months have passed as in deed)". */
    private static void slipsCountMonthsInDeed() {
        for (int passed = 0; passed <= 12; passed++) {
            EiderClimate x = new EiderClimate();
            for (int i = 0; i < passed; i++) {
                x.month();
            }
            x.mend(0, 0, 4);
            x.mend(0, 7, 5);
            int till = 5 - passed % 5;
            DUE.is(passed + " have passed, one ahead", x.later(till - 1, 0, 1), 4);
            DUE.is(passed + " have passed, slips", x.later(till, 6, 1), 4);
            DUE.is(passed + " have passed, not again", x.later(till + 4, 6, 1), 4);
            DUE.is(passed + " have passed, again", x.later(till + 5, 12, 1), 4);
        }
        EiderClimate x = new EiderClimate();
        x.mend(0, 6, 4);
        x.mend(0, 0, 4);
        x.mend(0, 7, 5);
        DUE.is("MONTH as told is none that passed", x.later(1, 0, 1), 4);
    }

    /** "each column X goes one down, what was at Y 4 comes to Y 0". */
    private static void slipsRound() {
        EiderClimate x = new EiderClimate();
        for (int square = 0; square < 30; square++) {
            Edge.square(x, square, square % 5, square % 9 + 1, square % 11);
        }
        x.mend(0, 7, 12);
        for (int i = 0; i < 11; i++) {
            x.month();
        }
        for (int place = 0; place < 30; place++) {
            int from = (place + 24) % 30;
            for (int what = 1; what <= 3; what++) {
                x.mend(0, 7, 0);
                int unslipped = x.later(1, from, what);
                x.mend(0, 7, 12);
                DUE.is("number " + what + " at " + place, x.later(1, place, what), unslipped);
            }
        }
    }

    /** "SLIP (0 .. 12 months; 0 at first: never)". */
    private static void slipsNever() {
        EiderClimate x = new EiderClimate();
        x.mend(9, 0, 3);
        for (int n = 0; n <= 48; n++) {
            DUE.is("behind " + n, x.later(n, 9, 1), 3);
        }
        x.month();
        DUE.is("in deed", x.of(9, 0), 3);
    }

    /** "MONTH is one more, behind 11: 0." */
    private static void monthsGoRound() {
        EiderClimate x = byLaw("m");
        for (int month = 0; month <= 11; month++) {
            x.mend(0, 6, month);
            for (int n : new int[] {0, 1, 11, 12, 13, 48}) {
                DUE.is("from " + month + " behind " + n, x.later(n, 0, 0), (month + n) % 12);
            }
        }
        DUE.is("in deed 11", x.of(0, 6), 11);
        x.month();
        DUE.is("in deed 0", x.of(0, 6), 0);
        x.month();
        DUE.is("in deed 1", x.of(0, 6), 1);
    }

    /** "HOUSES feel what is over their PLACE in the MONTH; then WORN .. then .. all SLIPS .. MONTH is one more". */
    private static void feltBeforeTheMonthPasses() {
        EiderClimate x = new EiderClimate();
        Edge.square(x, 9, 4, 1, 3);
        x.mend(0, 7, 1);
        x.house(9, 1);
        DUE.is("it is felt not yet worn and not yet slipped", x.month(), 0);
        DUE.is("then there is nothing over it", x.month(), 1);
        x.mend(0, 5, 1 << 3);
        DUE.is("in month 2, not yet 3", x.month(), 0);
        DUE.is("in month 3", x.month(), 1);
        EiderClimate y = new EiderClimate();
        Edge.square(y, 26, 4, 1, 11);
        y.mend(0, 7, 1);
        y.month();
        DUE.is("it wears before it slips", y.of(2, 0), 4);
        DUE.is("worn out where it was", y.of(2, 1), 0);
    }

    /** "Behind n months: which HOUSES are COLD (what 0: bits), the warmest PLACE (1). BAD." */
    private static void coldMonthsAndWhats() {
        for (int n : Edge.outside(0, 48)) {
            LIVED.changesNothing("cold(" + n + ", 0)", Edge.BAD, x -> x.cold(n, 0));
            LIVED.changesNothing("cold(" + n + ", 1)", Edge.BAD, x -> x.cold(n, 1));
        }
        for (int what : Edge.outside(0, 1)) {
            LIVED.changesNothing("cold(0, " + what + ")", Edge.BAD, x -> x.cold(0, what));
        }
        BARE.changesNothing("no houses", 0, x -> x.cold(48, 0));
        BARE.changesNothing("warmest of nothing", 0, x -> x.cold(48, 1));
    }

    /** "they feel less than NEEDS". */
    private static void coldIsLessThanNeeds() {
        for (int warmth : new int[] {0, 1, 50, 98, 99, 100}) {
            EiderClimate x = byLaw("" + warmth);
            x.house(0, 0);
            for (int needs = 0; needs <= 99; needs++) {
                x.mend(0, 4, needs);
                DUE.is(needs + " needed of " + warmth, x.cold(0, 0), Math.min(99, warmth) < needs ? 1 : 0);
            }
        }
        EiderClimate x = byLaw("-5");
        x.house(0, 0);
        DUE.is("none is cold that needs nothing", x.cold(0, 0), 0);
        DUE.is("nor ever is", x.first(0), Edge.NOT);
    }

    /** "MONTHS (bits 0 .. 4095: in which", "if that MONTH is one of theirs". */
    private static void coldInItsMonths() {
        for (int month = 0; month <= 11; month++) {
            EiderClimate x = new EiderClimate();
            x.house(0, 1);
            x.mend(0, 5, 1 << month);
            for (int now = 0; now <= 11; now++) {
                x.mend(0, 6, now);
                DUE.is(month + " is its month, now is " + now, x.cold(0, 0), now == month ? 1 : 0);
                DUE.is("first", x.first(0), (month - now + 12) % 12);
            }
            x.mend(0, 5, 4095 - (1 << month));
            for (int now = 0; now <= 11; now++) {
                x.mend(0, 6, now);
                DUE.is("all but " + month + ", now is " + now, x.cold(0, 0), now == month ? 0 : 1);
            }
        }
    }

    /** "which HOUSES (bits)": none, each, all. */
    private static void coldHouses() {
        EiderClimate x = new EiderClimate();
        DUE.is("no house", x.cold(0, 0), 0);
        for (int house = 0; house < 8; house++) {
            x.house(house, 1);
            DUE.is("houses to " + house, x.cold(0, 0), (2 << house) - 1);
        }
        for (int house = 0; house < 8; house++) {
            x.mend(house, 4, 0);
            DUE.is("all but " + house, x.cold(0, 0), 255 - (1 << house));
            x.mend(house, 4, 1);
        }
        for (int house = 0; house < 8; house++) {
            x.mend(house, 4, 0);
        }
        DUE.is("none", x.cold(0, 0), 0);
    }

    /** "the warmest PLACE (of like ones the least)". */
    private static void warmestOfLikeOnes() {
        for (int place = 0; place < 30; place++) {
            EiderClimate x = byLaw("t");
            x.mend(29, 1, 5);
            x.mend(place, 1, 5);
            DUE.is("of " + place + " and 29", x.cold(0, 1), place);
            x.mend(place, 1, 6);
            x.mend(place == 0 ? 1 : 0, 1, 5);
            DUE.is("the warmest, " + place, x.cold(0, 1), place);
        }
        DUE.is("all like, none above 0", byLaw("0").cold(0, 1), 0);
        DUE.is("all like, held at 99", byLaw("100+y").cold(0, 1), 0);
        DUE.is("the last row", byLaw("y").cold(0, 1), 24);
    }

    private static void refusedHouses() {
        for (int house : Edge.outside(0, 2)) {
            LIVED.changesNothing("first(" + house + ")", Edge.BAD, x -> x.first(house));
            LIVED.changesNothing("often(" + house + ", 0)", Edge.BAD, x -> x.often(house, 0));
            LIVED.changesNothing("pulls(" + house + ", -1)", Edge.BAD, x -> x.pulls(house, -1));
            LIVED.changesNothing("pulls(" + house + ", 0)", Edge.BAD, x -> x.pulls(house, 0));
        }
        BARE.changesNothing("no houses, first", Edge.BAD, x -> x.first(0));
        BARE.changesNothing("no houses, often", Edge.BAD, x -> x.often(0, 0));
        BARE.changesNothing("no houses, pulls", Edge.BAD, x -> x.pulls(0, -1));
    }

    /** "FIRST. BAD; NOT.", and so of all that a HOUSE is told to. */
    private static void firstHouses() {
        refusedHouses();
        LIVED.changesNothing("first(2)", 0, x -> x.first(2));
        EiderClimate x = new EiderClimate();
        for (int house = 0; house < 8; house++) {
            x.house(0, 1);
        }
        DUE.is("first of the last", x.first(7), 0);
        DUE.is("often of the last", x.often(7, 0), 1);
        DUE.is("pulls of the last", x.pulls(7, -1), Edge.NOT);
    }

    /** "behind how many months (0 .. 48) a HOUSE is first COLD; NOT." */
    private static void firstFrom0To48() {
        // thick goes down behind 12, 24, 36, 48 months, or one month earlier for each worn
        for (int worn = 0; worn <= 11; worn++) {
            for (int thick = 1; thick <= 5; thick++) {
                EiderClimate x = byLaw("t");
                Edge.square(x, 0, 1, thick, worn);
                x.house(0, 1);
                int when = 12 * thick - worn;
                DUE.is("first at " + when, x.first(0), when <= 48 ? when : Edge.NOT);
                DUE.is("how often", x.often(0, 48), Math.max(0, 49 - when));
            }
        }
        EiderClimate x = new EiderClimate();
        x.house(0, 1);
        DUE.is("at once", x.first(0), 0);
        x.mend(0, 5, 0);
        DUE.is("in no month", x.first(0), Edge.NOT);
    }

    /** "HOW OFTEN a HOUSE is COLD. BAD." */
    private static void oftenHousesAndMonths() {
        for (int n : Edge.outside(0, 48)) {
            LIVED.changesNothing("often(0, " + n + ")", Edge.BAD, x -> x.often(0, n));
        }
        LIVED.changesNothing("often(2, 48)", 49, x -> x.often(2, 48));
    }

    /** "HOW OFTEN of those 0 to n." */
    private static void oftenCountsBothEnds() {
        EiderClimate x = new EiderClimate();
        x.house(0, 1);
        x.house(0, 1);
        x.mend(1, 5, 1 | 1 << 11);
        for (int n = 0; n <= 48; n++) {
            DUE.is("always, to " + n, x.often(0, n), n + 1);
            DUE.is("in months 0 and 11, to " + n, x.often(1, n), n / 12 + 1 + (n + 1) / 12);
        }
    }

    /** "how many (k -1), the k-th (NOT: there are not as many). BAD; NOT." */
    private static void pullsHousesAndK() {
        for (int k : new int[] {Integer.MIN_VALUE, -65536, -3, -2}) {
            LIVED.changesNothing("pulls(2, " + k + ")", Edge.BAD, x -> x.pulls(2, k));
        }
        EiderClimate x = byLaw("t");
        x.house(14, 5);
        x.mend(17, 1, 5);
        int[] want = {3, 4, 4, 4};
        for (int k = -1; k < 3; k++) {
            DUE.is("three, k " + k, x.pulls(0, k), want[k + 1]);
        }
        for (int k : new int[] {3, 4, 65536, Integer.MAX_VALUE}) {
            DUE.is("three, k " + k, x.pulls(0, k), Edge.NOT);
        }
        LIVED.changesNothing("what is answered so changes nothing", Edge.NOT, y -> y.pulls(2, -1));
    }

    /** "the fewest PULLS (0 .. 3) by which a told HOUSE is not COLD now". */
    private static void pullsFrom0To3() {
        for (int column = 0; column < 6; column++) {
            EiderClimate x = byLaw("t");
            x.house(12, 5);
            x.mend(12 + column, 1, 5);
            DUE.is("from column " + column, x.pulls(0, -1), Math.min(column, 6 - column));
            DUE.is("its first", x.pulls(0, 0), column == 0 ? Edge.NOT : column < 3 ? 5 : 4);
        }
        // up and down of 14 count together: 2 pulls of the one row, and 1 or 2 of the other
        for (int down = 0; down <= 3; down++) {
            EiderClimate x = byLaw("n");
            x.house(14, 18);
            x.mend(10, 1, 9);
            x.mend(20 + down, 1, 9);
            DUE.is("2 and " + down, x.pulls(0, -1), 2 + down <= 3 ? 2 + down : Edge.NOT);
            DUE.is("2 and " + down + ", the first", x.pulls(0, 0), 2 + down <= 3 ? 3 : Edge.NOT);
        }
        EiderClimate x = new EiderClimate();
        x.house(12, 1);
        DUE.is("never", x.pulls(0, -1), Edge.NOT);
        DUE.is("never, k 0", x.pulls(0, 0), Edge.NOT);
        x.mend(0, 4, 0);
        DUE.is("none is needed", x.pulls(0, -1), 0);
        DUE.is("none is needed, k 0", x.pulls(0, 0), Edge.NOT);
    }

    /** "(2 times the row, and the way; of like ones the first by numbers)". */
    private static void pullsOfLikeOnes() {
        for (int line = 0; line < 5; line++) {
            EiderClimate x = byLaw("t");
            x.house(6 * line, 5);
            x.mend(6 * line + 1, 1, 5);
            DUE.is("row " + line + " to the left", x.pulls(0, 0), 2 * line + 1);
            x.mend(6 * line + 5, 1, 5);
            DUE.is("row " + line + " either way", x.pulls(0, 0), 2 * line);
        }
        EiderClimate x = byLaw("n");
        x.house(14, 5);
        for (int beside : new int[] {7, 9, 16, 19, 21}) {
            x.mend(beside, 1, 5);
        }
        DUE.is("one of many", x.pulls(0, -1), 1);
        DUE.is("the first row of those that help", x.pulls(0, 0), 2);
        x.mend(0, 4, 15);
        DUE.is("three rows", x.pulls(0, -1), 3);
        DUE.is("first", x.pulls(0, 0), 2);
        DUE.is("then", x.pulls(0, 1), 5);
        DUE.is("then", x.pulls(0, 2), 6);
    }

    /** "COLD .. if that MONTH is one of theirs": by no PULLS then. */
    private static void pullsInNoMonthOfIts() {
        EiderClimate x = new EiderClimate();
        x.house(12, 99);
        DUE.is("in its month", x.pulls(0, -1), Edge.NOT);
        x.mend(0, 5, 4094);
        DUE.is("in none of its", x.pulls(0, -1), 0);
        x.mend(0, 6, 11);
        DUE.is("in its last", x.pulls(0, -1), Edge.NOT);
    }

    /** "SHAKE: which (what 0), how many (1). BAD." */
    private static void shakesWhats() {
        for (int what : Edge.outside(0, 1)) {
            LIVED.changesNothing("shakes(" + what + ")", Edge.BAD, x -> x.shakes(what));
        }
        BARE.changesNothing("which", 7, x -> x.shakes(0));
        BARE.changesNothing("how many", 0, x -> x.shakes(1));
        LIVED.changesNothing("how many in a life", 1, x -> x.shakes(1));
    }

    /** "at which SQUARE a SHAKE leaves fewest HOUSES COLD now": never one at the rim. */
    private static void shakesAtEachSquare() {
        for (int square = 7; square <= 22; square++) {
            if (square % 6 == 0 || square % 6 == 5) {
                continue;
            }
            EiderClimate x = byLaw("t");
            x.house(square, 8);
            for (int k = 0; k < 8; k++) {
                x.mend(square - 7 + k % 3 + k / 3 * 6, 1, 1);
            }
            DUE.is("only at " + square, x.shakes(0), square);
            DUE.is("none is cold then", x.shakes(1), 0);
            x.mend(0, 4, 9);
            DUE.is("nowhere, so the least", x.shakes(0), 7);
            DUE.is("it is cold then", x.shakes(1), 1);
        }
        EiderClimate x = byLaw("t");
        x.house(0, 1);
        x.mend(1, 1, 8);
        DUE.is("a corner gets nothing of eight", x.shakes(1), 1);
        x.mend(1, 1, 9);
        DUE.is("of nine it does", x.shakes(1), 0);
    }

    /** "(of like ones the least)". */
    private static void shakesOfLikeOnes() {
        EiderClimate x = byLaw("t");
        x.house(29, 1);
        DUE.is("none helps", x.shakes(0), 7);
        x.mend(29, 1, 9);
        DUE.is("none is needed, the least that does no harm", x.shakes(0), 7);
        x.house(28, 1);
        DUE.is("at 22 alone both get one", x.shakes(0), 22);
        DUE.is("none is cold", x.shakes(1), 0);
        x.mend(0, 4, 0);
        x.mend(27, 1, 9);
        DUE.is("at 21 too", x.shakes(0), 21);
    }

    /** "HOUSES 0 .. 7": fewest may be all eight of them. */
    private static void allAreCold() {
        EiderClimate x = new EiderClimate();
        for (int house = 0; house < 8; house++) {
            x.house(house, 99);
        }
        DUE.is("which SHAKE", x.shakes(0), 7);
        DUE.is("how many then", x.shakes(1), 8);
        int[] which = {-9, 0, 1};
        for (int k = 0; k <= 2; k++) {
            DUE.is("how many by " + k, x.stuffs(k, 0), 8);
            DUE.is("which by " + k, x.stuffs(k, 1), which[k]);
        }
        x.mend(0, 4, 98);
        x.mend(9, 1, 9);
        DUE.is("SHAKE is at the least still", x.shakes(0), 7);
    }

    /** "k (0 .. 2) SQUARES", "how many are COLD (what 0), which (1). BAD." */
    private static void stuffsHowManyAndWhats() {
        for (int k : Edge.outside(0, 2)) {
            LIVED.changesNothing("stuffs(" + k + ", 0)", Edge.BAD, x -> x.stuffs(k, 0));
        }
        for (int what : Edge.outside(0, 1)) {
            LIVED.changesNothing("stuffs(0, " + what + ")", Edge.BAD, x -> x.stuffs(0, what));
        }
        int[] which = {-9, 0, 1};
        for (int k = 0; k <= 2; k++) {
            int asked = k;
            BARE.changesNothing("stuffs(" + k + ", 0)", 0, x -> x.stuffs(asked, 0));
            BARE.changesNothing("stuffs(" + k + ", 1)", which[k], x -> x.stuffs(asked, 1));
        }
        LIVED.changesNothing("two in a life", 1, x -> x.stuffs(2, 0));
    }

    /** "30 times the lesser and the greater; one: that; none: -9". */
    private static void stuffsAtEachSquare() {
        for (int lesser = 0; lesser < 30; lesser++) {
            EiderClimate x = byLaw("t");
            x.house(lesser, 9);
            DUE.is("none, of " + lesser, x.stuffs(0, 1), -9);
            DUE.is("none, how many", x.stuffs(0, 0), 1);
            DUE.is("one, of " + lesser, x.stuffs(1, 1), lesser);
            DUE.is("one, how many", x.stuffs(1, 0), 0);
            x.house(0, 9);
            for (int greater = lesser + 1; greater < 30; greater++) {
                x.mend(1, 3, greater);
                DUE.is("two, of " + lesser + " and " + greater, x.stuffs(2, 1), 30 * lesser + greater);
            }
        }
    }

    /** "so that fewest HOUSES are COLD now (of like ones the least". */
    private static void stuffsOfLikeOnes() {
        EiderClimate x = byLaw("t");
        x.house(12, 9);
        x.house(5, 9);
        x.house(12, 10);
        DUE.is("one, of two", x.stuffs(1, 1), 5);
        DUE.is("one, how many", x.stuffs(1, 0), 2);
        DUE.is("both", x.stuffs(2, 1), 162);
        x.mend(1, 4, 0);
        DUE.is("the second is the least that does no harm", x.stuffs(2, 1), 12);
        x.mend(0, 4, 0);
        DUE.is("none is needed", x.stuffs(2, 1), 1);
        DUE.is("none is needed of one", x.stuffs(1, 1), 0);
        EiderClimate y = byLaw("9-t");
        y.house(0, 1);
        y.house(1, 1);
        DUE.is("stuffing does harm: one", y.stuffs(1, 1), 2);
        DUE.is("stuffing does harm: two", y.stuffs(2, 1), 63);
        DUE.is("none is cold", y.stuffs(2, 0), 0);
    }

    /** "(each SORT 2, THICK 9, WORN 0)". */
    private static void stuffsAnew() {
        for (String law : new String[] {"s=2", "t=9", "w=0"}) {
            EiderClimate x = byLaw(law);
            for (int square = 0; square < 30; square++) {
                Edge.square(x, square, 3, 8, 12);
            }
            x.house(17, 1);
            DUE.is("by " + law + " none", x.stuffs(0, 0), 1);
            DUE.is("by " + law, x.stuffs(1, 0), 0);
            DUE.is("by " + law + " which", x.stuffs(1, 1), 17);
            x.house(21, 1);
            DUE.is("by " + law + " two", x.stuffs(2, 0), 0);
            DUE.is("by " + law + " which two", x.stuffs(2, 1), 30 * 17 + 21);
        }
    }
}
