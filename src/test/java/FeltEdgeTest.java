/** The edges of promises 15 to 20, a test for each sentence of the document that names one. */
public final class FeltEdgeTest {
    private static final Due DUE = new Due("FeltEdgeTest");
    private static final Edge LIVED = new Edge(DUE, Edge::live);
    private static final Edge BARE = new Edge(DUE, x -> { });
    private static final Edge EIGHT_HOUSES = new Edge(DUE, FeltEdgeTest::eightHouses);

    public static void main(String[] args) {
        shelfAndPlace();
        nothingOrAnotherKind();
        theOneNamedFirst();
        feltSquaresAndWhats();
        noBytesAtAll();
        fortyNineCount();
        firstThatIsNotSo();
        bytesKeepTheirBits();
        sortsThatFit();
        thicksThatFit();
        wornsThatFit();
        feltOfAToldSquare();
        feltLeavesTheSquare();
        walkPlacesAndWhats();
        walkToItself();
        walkBothEndsCount();
        walkNotRoundTheRim();
        walkBySteps();
        walkWarmth();
        patchesWhats();
        patchesNoneAndAll();
        patchesBesideOneAnother();
        patchesOfOneSort();
        turnsHouses();
        turnsRows();
        turnsHowManyAndWhats();
        turnsOneToFour();
        turnsOfLikeOnes();
        turnsEitherWay();
        turnsBothDoTheirBest();
        drawnYearsAndMonths();
        drawnHouses();
        drawnSeeds();
        drawnGales();
        drawnMoths();
        drawnNothing();
        drawnBeforeTheMonthPasses();
        drawnFromNow();
        drawnSeedGoesOn();
        DUE.end();
    }

    private static void eightHouses(EiderClimate x) {
        for (int i = 0; i < 8; i++) {
            x.house(i, 10 + i);
        }
    }

    private static EiderClimate byLaw(String text) {
        EiderClimate x = new EiderClimate();
        DUE.is("law", Edge.tell(x, text), 1);
        return x;
    }

    private static void thicks(EiderClimate x, int thick) {
        for (int square = 0; square < 30; square++) {
            x.mend(square, 1, thick);
        }
    }

    /** "(sp: 100 times the SHELF, and the PLACE; a ROW of bytes: BAD". */
    private static void shelfAndPlace() {
        int[] bad = {Integer.MIN_VALUE, -65536, -101, -100, -71, -1, 30, 31, 99, 130, 199, 530, 599, 600, 629, 700, 65536,
            Integer.MAX_VALUE};
        for (int sp : bad) {
            LIVED.changesNothing("judge(" + sp + ")", Edge.BAD, x -> x.judge(sp));
            LIVED.changesNothing("felt(" + sp + ", 0, 0)", Edge.BAD, x -> x.felt(sp, 0, 0));
        }
        for (int sp : new int[] {0, 29, 100, 129, 500, 529}) {
            EiderClimate x = byLaw("y+3");
            Edge.row(x, sp / 100, 0, sp % 100 / 6 + 3);
            DUE.is("judge(" + sp + ")", x.judge(sp), Edge.NOT);
            DUE.is("felt(" + sp + ", 0, 1)", x.felt(sp, 0, 1), 10);
            x.put(sp / 100, 0, 9);
            DUE.is("judge(" + sp + ") of another", x.judge(sp), 0);
            DUE.is("felt(" + sp + ", 0, 1) of another", x.felt(sp, 0, 1), 0);
        }
    }

    /** "a ROW of bytes: .. -11, -12". */
    private static void nothingOrAnotherKind() {
        int[] due = {0, -12, -12, -12, -11, -12};
        for (int shelf = 1; shelf < 6; shelf++) {
            int sp = 100 * shelf + 7;
            LIVED.changesNothing("judge(" + sp + ")", due[shelf], x -> x.judge(sp));
            LIVED.changesNothing("felt(" + sp + ", 7, 0)", due[shelf], x -> x.felt(sp, 7, 0));
        }
        for (int sort = 1; sort <= 4; sort++) {
            EiderClimate x = new EiderClimate();
            x.row(2, sort, 0);
            DUE.is("judge by an empty row of sort " + sort, x.judge(200), -12);
            x.row(2, sort, 60);
            DUE.is("judge by a row of sort " + sort, x.judge(200), -12);
            DUE.is("felt by a row of sort " + sort, x.felt(200, 0, 4), -12);
        }
    }

    /** "Answers, of several the one named first: BAD .. -11 to -14." */
    private static void theOneNamedFirst() {
        for (int sp : new int[] {400, 300, 100}) {
            LIVED.changesNothing("felt(" + sp + ", 30, 0)", Edge.BAD, x -> x.felt(sp, 30, 0));
            LIVED.changesNothing("felt(" + sp + ", -1, 0)", Edge.BAD, x -> x.felt(sp, -1, 0));
            LIVED.changesNothing("felt(" + sp + ", 0, 5)", Edge.BAD, x -> x.felt(sp, 0, 5));
            LIVED.changesNothing("felt(" + sp + ", 0, -1)", Edge.BAD, x -> x.felt(sp, 0, -1));
        }
    }

    /** "SORTS (what 0 ..), THICKS .. (1), .. (2 ..), WORNS .. (3), .. (4 ..) of a SQUARE." */
    private static void feltSquaresAndWhats() {
        for (int square : Edge.outside(0, 29)) {
            LIVED.changesNothing("felt(7, " + square + ", 0)", Edge.BAD, x -> x.felt(7, square, 0));
        }
        for (int what : Edge.outside(0, 4)) {
            LIVED.changesNothing("felt(7, 7, " + what + ")", Edge.BAD, x -> x.felt(7, 7, what));
        }
        EiderClimate x = byLaw("4");
        Edge.row(x, 0, 0, 4);
        int[] all = {31, 10, 0, 13, 0};
        for (int what = 0; what <= 4; what++) {
            DUE.is("all fit, of square 0", x.felt(0, 0, what), all[what]);
            DUE.is("all fit, of square 29", x.felt(0, 29, what), all[what]);
        }
    }

    /** "of 0 .. 60 elements": by none all is so. */
    private static void noBytesAtAll() {
        EiderClimate x = new EiderClimate();
        x.row(0, 0, 0);
        int[] all = {31, 10, 0, 13, 0};
        DUE.is("judge", x.judge(0), Edge.NOT);
        for (int what = 0; what <= 4; what++) {
            DUE.is("felt " + what, x.felt(0, 0, what), all[what]);
        }
    }

    /** "behind 0, 1, 2 .. months (49 at most count)". */
    private static void fortyNineCount() {
        for (int size : new int[] {1, 2, 47, 48, 49, 50, 51, 60}) {
            EiderClimate x = byLaw("m+1");
            x.row(0, 0, size);
            for (int i = 0; i < size && i < 49; i++) {
                x.put(0, i, i % 12 + 1);
            }
            DUE.is(size + " bytes, all so", x.judge(0), Edge.NOT);
            DUE.is(size + " bytes, all fit", x.felt(0, 0, 0), 31);
            for (int wrong : new int[] {0, 1, 46, 47, 48, 49, 50, 59}) {
                if (wrong < size) {
                    x.put(0, wrong, 50);
                    DUE.is(size + " bytes, wrong at " + wrong, x.judge(0), wrong < 49 ? wrong : Edge.NOT);
                    DUE.is(size + " bytes, wrong at " + wrong + ", fit", x.felt(0, 0, 3), wrong < 49 ? 0 : 13);
                    x.put(0, wrong, wrong % 12 + 1);
                }
            }
        }
    }

    /** "JUDGED: the first that is not so; NOT." */
    private static void firstThatIsNotSo() {
        EiderClimate x = new EiderClimate();
        Edge.square(x, 3, 4, 9, 0);
        Edge.row(x, 0, 0, 36, 35, 34, 33);
        DUE.is("all so", x.judge(3), Edge.NOT);
        x.put(0, 3, 32);
        DUE.is("the last is not", x.judge(3), 3);
        x.put(0, 1, 36);
        DUE.is("nor the second", x.judge(3), 1);
        x.put(0, 0, 0);
        DUE.is("nor the first", x.judge(3), 0);
        DUE.is("another place, where it is so", x.judge(29), 1);
    }

    /** "what is put in keeps its lowest bits": bytes from -128 to 127. */
    private static void bytesKeepTheirBits() {
        EiderClimate x = byLaw("99");
        Edge.row(x, 0, 0, 99);
        DUE.is("99", x.judge(0), Edge.NOT);
        x.put(0, 0, 355);
        DUE.is("355 is 99", x.judge(0), Edge.NOT);
        x.put(0, 0, -157);
        DUE.is("-157 is 99", x.judge(0), Edge.NOT);
        for (long v : new long[] {98, 100, 127, 128, 255, -1, -99, -128}) {
            x.put(0, 0, v);
            DUE.is("" + v, x.judge(0), 0);
        }
        Edge.tell(x, "-1");
        x.put(0, 0, 255);
        DUE.is("below 0 nothing is felt", x.judge(0), 0);
        x.put(0, 0, 256);
        DUE.is("but 0", x.judge(0), Edge.NOT);
    }

    /** "by which SORTS (bits 0 .. 4) of a told SQUARE all is so". */
    private static void sortsThatFit() {
        EiderClimate x = byLaw("s+1");
        for (int sort = 0; sort <= 4; sort++) {
            Edge.row(x, 0, 0, sort + 1);
            DUE.is("sort " + sort, x.felt(12, 12, 0), 1 << sort);
        }
        Edge.row(x, 0, 0, 6);
        DUE.is("no fifth", x.felt(12, 12, 0), 0);
        Edge.row(x, 0, 0, 0);
        DUE.is("none", x.felt(12, 12, 0), 0);
    }

    /** "by how many THICKS (0 .. 9) of it; the least (NOT)". */
    private static void thicksThatFit() {
        EiderClimate x = byLaw("t+1");
        for (int thick = 0; thick <= 9; thick++) {
            Edge.row(x, 0, 0, thick + 1);
            DUE.is("how many by " + thick, x.felt(12, 12, 1), 1);
            DUE.is("least by " + thick, x.felt(12, 12, 2), thick);
        }
        for (int v : new int[] {0, 11}) {
            Edge.row(x, 0, 0, v);
            DUE.is("how many by " + v, x.felt(12, 12, 1), 0);
            DUE.is("least by " + v, x.felt(12, 12, 2), Edge.NOT);
        }
        for (int more = 0; more <= 9; more++) {
            EiderClimate y = byLaw("t>" + more);
            Edge.row(y, 0, 0, 1);
            DUE.is("above " + more, y.felt(12, 12, 1), 9 - more);
            DUE.is("least above " + more, y.felt(12, 12, 2), more < 9 ? more + 1 : Edge.NOT);
        }
    }

    /** "by how many WORNS (0 .. 12) of it; the least (NOT)". */
    private static void wornsThatFit() {
        EiderClimate x = byLaw("w+1");
        for (int worn = 0; worn <= 12; worn++) {
            Edge.row(x, 0, 0, worn + 1);
            DUE.is("how many by " + worn, x.felt(12, 12, 3), 1);
            DUE.is("least by " + worn, x.felt(12, 12, 4), worn);
        }
        for (int v : new int[] {0, 14}) {
            Edge.row(x, 0, 0, v);
            DUE.is("how many by " + v, x.felt(12, 12, 3), 0);
            DUE.is("least by " + v, x.felt(12, 12, 4), Edge.NOT);
        }
        // stuffed and worn 11 or 12 it is worn out in a month
        x.mend(12, 1, 5);
        Edge.tell(x, "w*t");
        Edge.row(x, 0, 0, 60, 0);
        DUE.is("worn out from 12", x.felt(12, 12, 4), 12);
        Edge.row(x, 0, 0, 55, 0);
        DUE.is("worn out from 11", x.felt(12, 12, 4), 11);
        Edge.row(x, 0, 0, 50, 55, 0);
        DUE.is("worn out from 10", x.felt(12, 12, 4), 10);
    }

    /** "of a told SQUARE": not of the one over the PLACE. */
    private static void feltOfAToldSquare() {
        EiderClimate x = byLaw("n");
        Edge.row(x, 0, 0, 7);
        for (int square = 0; square < 30; square++) {
            boolean beside = Math.abs(square / 6 - 2) + Math.abs(square % 6 - 2) == 1;
            DUE.is("by the thick of " + square, x.felt(14, square, 2), beside ? 7 : Edge.NOT);
        }
    }

    /** "What is answered so changes nothing." In thought nothing changes either. */
    private static void feltLeavesTheSquare() {
        for (int what = 0; what <= 4; what++) {
            int asked = what;
            int[] due = {0, 0, Edge.NOT, 0, Edge.NOT};
            LIVED.changesNothing("felt(7, 7, " + what + ")", due[what], x -> x.felt(7, 7, asked));
        }
        LIVED.changesNothing("judge(7)", 0, x -> x.judge(7));
    }

    /** "(ft: 100 times the PLACE from, and that to)", "how warm (what 0), how many steps (1). BAD." */
    private static void walkPlacesAndWhats() {
        int[] bad = {Integer.MIN_VALUE, -65536, -100, -29, -1, 30, 99, 130, 2930, 2999, 3000, 3029, 65536, Integer.MAX_VALUE};
        for (int ft : bad) {
            LIVED.changesNothing("walk(" + ft + ", 0)", Edge.BAD, x -> x.walk(ft, 0));
            LIVED.changesNothing("walk(" + ft + ", 1)", Edge.BAD, x -> x.walk(ft, 1));
        }
        for (int what : Edge.outside(0, 1)) {
            LIVED.changesNothing("walk(0, " + what + ")", Edge.BAD, x -> x.walk(0, what));
        }
        BARE.changesNothing("walk(2900, 1)", 9, x -> x.walk(2900, 1));
        BARE.changesNothing("walk(29, 1)", 9, x -> x.walk(29, 1));
        LIVED.changesNothing("walk(2900, 0)", 0, x -> x.walk(2900, 0));
    }

    /** "from a PLACE to another one": to itself no step is gone. */
    private static void walkToItself() {
        EiderClimate x = byLaw("t");
        for (int place = 0; place < 30; place++) {
            x.mend(place, 1, place % 9 + 1);
            DUE.is("how warm at " + place, x.walk(101 * place, 0), place % 9 + 1);
            DUE.is("no step from " + place, x.walk(101 * place, 1), 0);
        }
    }

    /** "the coldest PLACE gone through (both ends, too)". */
    private static void walkBothEndsCount() {
        EiderClimate x = byLaw("t");
        thicks(x, 5);
        DUE.is("all like", x.walk(2, 0), 5);
        x.mend(0, 1, 3);
        DUE.is("a cold start", x.walk(2, 0), 3);
        x.mend(0, 1, 5);
        x.mend(2, 1, 2);
        DUE.is("a cold end", x.walk(2, 0), 2);
        x.mend(0, 1, 0);
        DUE.is("the colder of both", x.walk(2, 0), 0);
        x.mend(0, 1, 9);
        x.mend(2, 1, 9);
        DUE.is("warm ends, what lies between", x.walk(2, 0), 5);
        x.mend(1, 1, 9);
        DUE.is("all of it warm", x.walk(2, 0), 9);
    }

    /** "up, right, down, left": one step each, and none over the rim. */
    private static void walkNotRoundTheRim() {
        EiderClimate x = byLaw("t");
        for (int from = 0; from < 30; from++) {
            for (int to : new int[] {0, 5, 24, 29}) {
                int steps = Math.abs(from / 6 - to / 6) + Math.abs(from % 6 - to % 6);
                DUE.is("steps from " + from + " to " + to, x.walk(100 * from + to, 1), steps);
            }
        }
        x.mend(0, 1, 9);
        x.mend(5, 1, 9);
        x.mend(6, 1, 9);
        x.mend(24, 1, 9);
        DUE.is("from 0 to 5 by the cold", x.walk(5, 0), 0);
        DUE.is("from 5 to 6 by the cold", x.walk(506, 0), 0);
        DUE.is("from 0 to 24 by the cold", x.walk(24, 0), 0);
        DUE.is("from 0 to 6", x.walk(6, 0), 9);
    }

    /** "how many steps, fewest by PLACES as warm as that or more". */
    private static void walkBySteps() {
        EiderClimate x = byLaw("t");
        thicks(x, 5);
        for (int line = 0; line < 4; line++) {
            x.mend(6 * line + 2, 1, 4);
        }
        DUE.is("round by the sea", x.walk(3, 0), 5);
        DUE.is("down, over and up", x.walk(3, 1), 4 + 3 + 4);
        x.mend(26, 1, 4);
        DUE.is("no way round", x.walk(3, 0), 4);
        DUE.is("straight on", x.walk(3, 1), 3);
        x.mend(2, 1, 3);
        DUE.is("round the colder one", x.walk(3, 0), 4);
        DUE.is("one line lower", x.walk(3, 1), 5);
        x.mend(0, 1, 3);
        DUE.is("where the start is as cold, straight on", x.walk(3, 1), 3);
    }

    /** "held within 0 .. 99": the least and the most warmth to go by. */
    private static void walkWarmth() {
        EiderClimate x = byLaw("t*9999");
        thicks(x, 1);
        DUE.is("the most", x.walk(29, 0), 99);
        DUE.is("its steps", x.walk(29, 1), 9);
        x.mend(29, 1, 0);
        DUE.is("the least", x.walk(29, 0), 0);
        DUE.is("its steps", x.walk(29, 1), 9);
        Edge.tell(x, "98+t");
        DUE.is("98 at the end", x.walk(29, 0), 98);
        DUE.is("99 before it", x.walk(28, 0), 99);
    }

    /** "how many (what 0), how many SQUARES in the greatest (1). BAD." */
    private static void patchesWhats() {
        for (int what : Edge.outside(0, 1)) {
            LIVED.changesNothing("patches(" + what + ")", Edge.BAD, x -> x.patches(what));
        }
        BARE.changesNothing("patches(0)", 0, x -> x.patches(0));
        BARE.changesNothing("patches(1)", 0, x -> x.patches(1));
    }

    /** "SQUARES of THICK above 0": none, one, all. */
    private static void patchesNoneAndAll() {
        EiderClimate x = new EiderClimate();
        for (int square = 0; square < 30; square++) {
            x.mend(square, 0, 3);
        }
        DUE.is("none is thick", x.patches(0), 0);
        DUE.is("none is greatest", x.patches(1), 0);
        for (int square = 0; square < 30; square++) {
            x.mend(square, 1, 1);
            DUE.is("the greatest to " + square, x.patches(1), square + 1);
            DUE.is("in one", x.patches(0), 1);
        }
        for (int square = 0; square < 30; square++) {
            DUE.is("the greatest from " + square, x.patches(1), 30 - square);
            x.mend(square, 1, 0);
        }
        DUE.is("none again", x.patches(1), 0);
        EiderClimate y = new EiderClimate();
        y.mend(29, 1, 9);
        DUE.is("one at the end", y.patches(0), 1);
        DUE.is("of one", y.patches(1), 1);
    }

    /** "BESIDE one another": up, right, down, left, and not over the rim. */
    private static void patchesBesideOneAnother() {
        for (int one = 0; one < 30; one++) {
            for (int other = one + 1; other < 30; other++) {
                EiderClimate x = new EiderClimate();
                x.mend(one, 1, 1);
                x.mend(other, 1, 9);
                boolean beside = Math.abs(one / 6 - other / 6) + Math.abs(one % 6 - other % 6) == 1;
                DUE.is(one + " and " + other, x.patches(0), beside ? 1 : 2);
                DUE.is(one + " and " + other + ", greatest", x.patches(1), beside ? 2 : 1);
            }
        }
    }

    /** "of one SORT": 0 .. 4, of which 0 is one. */
    private static void patchesOfOneSort() {
        for (int one = 0; one <= 4; one++) {
            for (int other = 0; other <= 4; other++) {
                EiderClimate x = new EiderClimate();
                Edge.square(x, 3, one, 1, 0);
                Edge.square(x, 4, other, 1, 12);
                DUE.is("sorts " + one + " and " + other, x.patches(0), one == other ? 1 : 2);
            }
        }
        EiderClimate x = new EiderClimate();
        for (int square = 0; square < 30; square++) {
            Edge.square(x, square, (square / 6 + square) % 2, 1, 0);
        }
        DUE.is("as many as there are", x.patches(0), 30);
        DUE.is("of one each", x.patches(1), 1);
        x.mend(7, 0, 1);
        DUE.is("five in one", x.patches(0), 26);
        DUE.is("the greatest", x.patches(1), 5);
    }

    /** "(hh: 10 times the one HOUSE, and the other, unlike". */
    private static void turnsHouses() {
        int[] bad = {Integer.MIN_VALUE, -65536, -10, -1, 0, 11, 22, 3, 30, 33, 13, 31, 8, 9, 99, 65536, Integer.MAX_VALUE};
        for (int hh : bad) {
            LIVED.changesNothing("byTurns(" + hh + ", 1, 1, 0)", Edge.VOID, x -> x.byTurns(hh, 1, 1, 0));
        }
        for (int hh : new int[] {77, 78, 87, 8, 80, 88, 79, 100, 101}) {
            EIGHT_HOUSES.changesNothing("byTurns(" + hh + ", 1, 1, 0)", Edge.VOID, x -> x.byTurns(hh, 1, 1, 0));
        }
        for (int hh : new int[] {1, 10, 7, 70, 67, 76}) {
            EIGHT_HOUSES.changesNothing("byTurns(" + hh + ", 1, 1, 0)", 0, x -> x.byTurns(hh, 1, 1, 0));
            EIGHT_HOUSES.changesNothing("byTurns(" + hh + ", 1, 1, 1)", 2, x -> x.byTurns(hh, 1, 1, 1));
        }
        BARE.changesNothing("no houses", Edge.VOID, x -> x.byTurns(1, 1, 1, 0));
    }

    /** "rr: 10 times the first one's row, and the other's, unlike)". */
    private static void turnsRows() {
        int[] bad = {Integer.MIN_VALUE, -65536, -10, -1, 0, 11, 22, 33, 44, 5, 50, 45, 54, 55, 9, 49, 100, 65536,
            Integer.MAX_VALUE};
        for (int rr : bad) {
            EIGHT_HOUSES.changesNothing("byTurns(1, " + rr + ", 1, 0)", Edge.VOID, x -> x.byTurns(1, rr, 1, 0));
        }
        for (int rr : new int[] {1, 4, 10, 40, 43, 34}) {
            EIGHT_HOUSES.changesNothing("byTurns(1, " + rr + ", 1, 0)", 0, x -> x.byTurns(1, rr, 1, 0));
        }
    }

    /** "n (1 .. 4) times", "that (what 0), what he does first (1). VOID: BAD." */
    private static void turnsHowManyAndWhats() {
        for (int n : Edge.outside(1, 4)) {
            EIGHT_HOUSES.changesNothing("byTurns(1, 1, " + n + ", 0)", Edge.VOID, x -> x.byTurns(1, 1, n, 0));
        }
        for (int what : Edge.outside(0, 1)) {
            EIGHT_HOUSES.changesNothing("byTurns(1, 1, 1, " + what + ")", Edge.VOID, x -> x.byTurns(1, 1, 1, what));
        }
        EIGHT_HOUSES.changesNothing("byTurns(1, 1, 4, 0)", 0, x -> x.byTurns(1, 1, 4, 0));
        LIVED.changesNothing("in a life", 2, x -> x.byTurns(1, 12, 4, 1));
    }

    /** "two families pull by turns, n (1 .. 4) times, the first one first". */
    private static void turnsOneToFour() {
        // each family's warmth is two pulls away, so that only the second pull of its own brings it
        EiderClimate x = byLaw("t");
        x.house(0, 0);
        x.house(6, 0);
        x.mend(2, 1, 5);
        x.mend(8, 1, 3);
        int[] most = {0, 0, 5, 2};
        for (int n = 1; n <= 4; n++) {
            DUE.is("two away, " + n + " times", x.byTurns(1, 1, n, 0), most[n - 1]);
            DUE.is("two away, " + n + " times, first", x.byTurns(1, 1, n, 1), n < 3 ? 2 : 1);
        }
        int[] others = {0, 0, 3, -2};
        for (int n = 1; n <= 4; n++) {
            DUE.is("the other one first, " + n + " times", x.byTurns(10, 10, n, 0), others[n - 1]);
        }
    }

    /** "(0, 1 the way, 2 nothing; of like ones nothing first, then the least)". */
    private static void turnsOfLikeOnes() {
        for (int thicks = 0; thicks < 8; thicks++) {
            EiderClimate x = byLaw("t");
            x.house(2, 0);
            x.house(12, 0);
            x.mend(1, 1, (thicks & 1) * 4);
            x.mend(3, 1, (thicks >> 1 & 1) * 4);
            x.mend(2, 1, (thicks >> 2 & 1) * 4);
            int due = thicks == 0 || thicks >= 4 ? 2 : (thicks & 1) == 1 ? 0 : 1;
            DUE.is("first of " + thicks, x.byTurns(1, 1, 1, 1), due);
            DUE.is("that of " + thicks, x.byTurns(1, 1, 1, 0), thicks == 0 ? 0 : 4);
        }
    }

    /** "a PULL of a told row of its own .., either way, or nothing". */
    private static void turnsEitherWay() {
        for (int line = 0; line < 5; line++) {
            for (int column : new int[] {0, 5}) {
                EiderClimate x = byLaw("t");
                x.house(6 * line + column, 0);
                x.house((6 * line + 8) % 30, 0);
                int rows = 10 * line + (line + 2) % 5;
                x.mend(6 * line + (column + 5) % 6, 1, 7);
                DUE.is("to the right, round", x.byTurns(1, rows, 1, 1), 0);
                x.mend(6 * line + (column + 5) % 6, 1, 0);
                x.mend(6 * line + (column + 1) % 6, 1, 7);
                DUE.is("to the left, round", x.byTurns(1, rows, 1, 1), 1);
                DUE.is("to the left, how much", x.byTurns(1, rows, 1, 0), 7);
                DUE.is("the other one's row first is of no use", x.byTurns(1, rows % 10 * 10 + line, 1, 1), 2);
            }
        }
    }

    /** "each wants warmth now at its own HOUSE, less that at the other one's, most: .. if both do their best". */
    private static void turnsBothDoTheirBest() {
        EiderClimate x = byLaw("t");
        x.house(0, 0);
        x.house(6, 0);
        x.mend(1, 1, 5);
        x.mend(7, 1, 9);
        DUE.is("the first alone", x.byTurns(1, 1, 1, 0), 5);
        DUE.is("the other one does best, too", x.byTurns(1, 1, 2, 0), -4);
        DUE.is("the first pulls away what is the other's", x.byTurns(1, 10, 1, 0), 0);
        x.mend(6, 1, 8);
        DUE.is("over the other there is 8", x.byTurns(1, 1, 1, 0), -3);
        DUE.is("by the other one's row the first pulls it away", x.byTurns(1, 10, 1, 0), 0);
        DUE.is("to the right, for 9 comes to the left", x.byTurns(1, 10, 1, 1), 0);
        Edge.tell(x, "100*t");
        DUE.is("99 at most, less 99", x.byTurns(1, 1, 1, 0), 0);
        DUE.is("less nothing", x.byTurns(1, 34, 1, 0), -99);
    }

    /** "(nm: 100 n and m)", "n years (1 .. 30) of m months (1 .. 24)". */
    private static void drawnYearsAndMonths() {
        int[] bad = {Integer.MIN_VALUE, -65536, -3024, -101, -1, 0, 1, 24, 99, 100, 125, 199, 200, 3000, 3025, 3099, 3100,
            3101, 3124, 65536, Integer.MAX_VALUE};
        for (int nm : bad) {
            LIVED.changesNothing("drawn(5, " + nm + ", -1)", Edge.BAD, x -> x.drawn(5, nm, -1));
        }
        EiderClimate x = new EiderClimate();
        x.house(0, 1);
        for (int nm : new int[] {101, 124, 201, 3001, 3024, 1512}) {
            DUE.is("drawn(5, " + nm + ", 0)", x.drawn(5, nm, 0), nm / 100 * (nm % 100));
        }
    }

    /** "all (house -1), a HOUSE. BAD." */
    private static void drawnHouses() {
        for (int house : Edge.outside(-1, 2)) {
            LIVED.changesNothing("drawn(5, 101, " + house + ")", Edge.BAD, x -> x.drawn(5, 101, house));
        }
        BARE.changesNothing("all of none", 0, x -> x.drawn(5, 3024, -1));
        BARE.changesNothing("no house", Edge.BAD, x -> x.drawn(5, 101, 0));
        LIVED.changesNothing("the last house", 1, x -> x.drawn(5, 101, 2));
        EIGHT_HOUSES.changesNothing("all of eight", 8 * 720, x -> x.drawn(5, 3024, -1));
        EIGHT_HOUSES.changesNothing("the eighth", 720, x -> x.drawn(5, 3024, 7));
        EIGHT_HOUSES.changesNothing("a ninth", Edge.BAD, x -> x.drawn(5, 101, 8));
    }

    /** "by a SEED: .. (an int; SEED at first)": any int. */
    private static void drawnSeeds() {
        for (int seed : new int[] {Integer.MIN_VALUE, -1, 0, 1, Integer.MAX_VALUE}) {
            EIGHT_HOUSES.changesNothing("drawn(" + seed + ", 3024, 0)", 720, x -> x.drawn(seed, 3024, 0));
        }
    }

    private static int next(int z) {
        return z * 1103515245 + 12345;
    }

    /** The first seed from one on whose first draw, below 0 or not, is such a lot for such a row or square. */
    private static int seedOf(int lot, int places, int place, boolean below) {
        int seed = 1;
        int z = next(seed);
        while ((z >>> 8) % 3 != lot || (z >>> 16) % places != place || z < 0 != below) {
            seed++;
            z = next(seed);
        }
        return seed;
    }

    /** "0 a gale PULLS row (z >>> 16) % 5 to the right". */
    private static void drawnGales() {
        for (int line = 0; line < 5; line++) {
            for (int sign = 0; sign < 2; sign++) {
                int seed = seedOf(0, 5, line, sign == 1);
                EiderClimate x = byLaw("t");
                x.house(0, 5);
                for (int other = 0; other < 5; other++) {
                    x.mend(6 * other + 5, 1, 5);
                }
                for (int other = 0; other < 5; other++) {
                    x.mend(0, 3, 6 * other);
                    DUE.is("seed " + seed + ": right, round, row " + other, x.drawn(seed, 101, 0), other == line ? 0 : 1);
                    x.mend(0, 3, 6 * other + 4);
                    DUE.is("seed " + seed + ": not to the left, row " + other, x.drawn(seed, 101, 0), 1);
                }
                DUE.is("in deed there is no gale", x.of(6 * line + 5, 1), 5);
                DUE.is("in deed none is led", x.led(1), 0);
            }
        }
    }

    /** "1 a moth makes THICK of SQUARE (z >>> 16) % 30 one less (0 at least)". */
    private static void drawnMoths() {
        for (int square = 0; square < 30; square++) {
            for (int sign = 0; sign < 2; sign++) {
                int seed = seedOf(1, 30, square, sign == 1);
                EiderClimate x = byLaw("t+9");
                x.house(square, 10);
                thicks(x, 1);
                DUE.is("seed " + seed + ": eaten at " + square, x.drawn(seed, 101, 0), 1);
                x.mend(0, 3, (square + 1) % 30);
                DUE.is("seed " + seed + ": beside it not", x.drawn(seed, 101, 0), 0);
                x.mend(0, 3, square);
                x.mend(square, 1, 2);
                DUE.is("seed " + seed + ": no more than one", x.drawn(seed, 101, 0), 0);
                x.mend(square, 1, 0);
                x.mend(0, 4, 9);
                DUE.is("seed " + seed + ": 0 at least", x.drawn(seed, 101, 0), 0);
                DUE.is("in deed there is no moth", x.of((square + 1) % 30, 1), 1);
            }
        }
    }

    /** "2 nothing". */
    private static void drawnNothing() {
        for (int place = 0; place < 30; place++) {
            for (int sign = 0; sign < 2; sign++) {
                int seed = seedOf(2, 30, place, sign == 1);
                EiderClimate x = byLaw("t");
                x.house(place, 5);
                for (int square = 0; square < 30; square++) {
                    x.mend(square, 1, square == place ? 5 : 4);
                }
                DUE.is("seed " + seed + ": as it was", x.drawn(seed, 101, 0), 0);
                x.mend(0, 4, 6);
                DUE.is("seed " + seed + ": no more either", x.drawn(seed, 101, 0), 1);
            }
        }
    }

    /** "then the month passes: how often HOUSES are COLD (before it passes)". */
    private static void drawnBeforeTheMonthPasses() {
        EiderClimate x = byLaw("w");
        thicks(x, 9);
        x.house(4, 1);
        x.house(4, 4);
        DUE.is("not worn in the first", x.drawn(5, 101, 0), 1);
        DUE.is("worn in the second", x.drawn(5, 102, 0), 1);
        DUE.is("worn by 0, 1, 2, 3", x.drawn(5, 124, 1), 4 + 4);
        DUE.is("all together", x.drawn(5, 124, -1), 1 + 1 + 8);
        EiderClimate y = new EiderClimate();
        y.house(0, 1);
        y.mend(0, 5, 1 << 11);
        y.mend(0, 6, 11);
        DUE.is("month 11 is now", y.drawn(5, 101, 0), 1);
        DUE.is("and comes again", y.drawn(5, 112, 0), 1);
        DUE.is("behind a year", y.drawn(5, 113, 0), 2);
        DUE.is("a month of no house", y.drawn(5, 124, 0), 2);
    }

    /** "n years .. of m months .. from now": each begins where all is now. */
    private static void drawnFromNow() {
        EiderClimate x = byLaw("w");
        thicks(x, 9);
        x.house(4, 1);
        x.mend(0, 7, 1);
        x.month();
        x.mend(0, 4, 2);
        for (int years = 1; years <= 30; years++) {
            DUE.is(years + " years", x.drawn(years, 100 * years + 3, 0), years);
        }
        DUE.is("nothing passed", x.led(0), 1);
        DUE.is("nothing passed", x.of(0, 6), 1);
    }

    /** "z = .. ahead of each month": and so from one year to the next. */
    private static void drawnSeedGoesOn() {
        for (int lot = 0; lot < 9; lot++) {
            int seed = 1;
            while ((next(seed) >>> 8) % 3 != lot / 3 || (next(next(seed)) >>> 8) % 3 != lot % 3) {
                seed++;
            }
            EiderClimate x = byLaw("t*5");
            thicks(x, 3);
            int moths = 0;
            int z = seed;
            for (int year = 0; year < 2; year++) {
                z = next(z);
                int square = (z >>> 16) % 30;
                if ((z >>> 8) % 3 == 1) {
                    moths++;
                    x.house(square, 15);
                }
            }
            DUE.is("two years by seed " + seed, x.drawn(seed, 201, -1), moths);
        }
    }
}
