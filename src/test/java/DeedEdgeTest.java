/** The edges of promises 21 to 29, a test for each sentence of the document that names one. */
public final class DeedEdgeTest {
    private static final Due DUE = new Due("DeedEdgeTest");
    private static final Edge LIVED = new Edge(DUE, Edge::live);
    private static final Edge BARE = new Edge(DUE, x -> { });

    public static void main(String[] args) {
        monthCountsTheCold();
        monthsPass();
        slipsInDeed();
        pullRows();
        pullRound();
        pullTellsX0();
        shakeAtTheRim();
        shakeByNine();
        shakeNineOnly();
        shakeLosesTheRest();
        shakeLeavesSortsAndWorns();
        stuffSquares();
        stuffSortsAndThicks();
        stuffTillThen();
        ledWhats();
        ledEachByItself();
        refusedIsNotLed();
        backWithoutImage();
        imageKeepsWhatItKeeps();
        imageKeepsNoMore();
        imageCanBeLaidBackAgain();
        undoNone();
        redoNone();
        undoTheLatestFirst();
        undoEachNumber();
        theSameIsNoChange();
        anotherCameBehind();
        fortyAtMost();
        deedsAreNone();
        DUE.end();
    }

    /** "A MONTH passes: how many were COLD.", "COLD ones (each HOUSE each month)". */
    private static void monthCountsTheCold() {
        BARE.answers("no houses", 0, x -> x.month());
        EiderClimate x = new EiderClimate();
        for (int house = 0; house < 8; house++) {
            x.house(0, 1);
            DUE.is("to house " + house, x.month(), house + 1);
            DUE.is("led to house " + house, x.led(4), (house + 1) * (house + 2) / 2);
        }
        for (int house = 0; house < 8; house++) {
            x.mend(house, 4, 0);
        }
        DUE.is("none", x.month(), 0);
        DUE.is("led", x.led(4), 36);
    }

    /** "MONTH (0 .. 11", "MONTH is one more, behind 11: 0." */
    private static void monthsPass() {
        EiderClimate x = new EiderClimate();
        for (int i = 1; i <= 25; i++) {
            x.month();
            DUE.is("MONTH behind " + i, x.of(0, 6), i % 12);
            DUE.is("months behind " + i, x.led(0), i);
        }
        x.mend(0, 6, 11);
        x.month();
        DUE.is("behind 11", x.of(0, 6), 0);
        x.mend(0, 6, 10);
        x.month();
        DUE.is("behind 10", x.of(0, 6), 11);
        DUE.is("months", x.led(0), 27);
    }

    /** "if SLIP is above 0 and the number of months that have passed (this one, too) is a multiple of it". */
    private static void slipsInDeed() {
        for (int slip = 0; slip <= 12; slip++) {
            EiderClimate x = new EiderClimate();
            Edge.square(x, 3, 4, 9, 0);
            x.mend(0, 7, slip);
            int at = 3;
            for (int i = 1; i <= 24; i++) {
                x.month();
                at = slip > 0 && i % slip == 0 ? (at + 6) % 30 : at;
                DUE.is("slip " + slip + ", month " + i, x.of(at, 0), 4);
                DUE.is("slip " + slip + ", month " + i + ", worn", x.of(at, 2), i % 12);
                DUE.is("slip " + slip + ", month " + i + ", thick", x.of(at, 1), 9 - i / 12);
            }
        }
    }

    /** "(rw: 2 times the row, and the way)", "BAD." */
    private static void pullRows() {
        for (int rw : Edge.outside(0, 9)) {
            LIVED.changesNothing("pull(" + rw + ")", Edge.BAD, x -> x.pull(rw));
        }
        for (int rw = 0; rw <= 9; rw++) {
            EiderClimate x = new EiderClimate();
            for (int square = 0; square < 30; square++) {
                Edge.square(x, square, square % 5, square % 10, square % 13);
            }
            DUE.is("pull(" + rw + ")", x.pull(rw), (rw / 2 * 6 + (rw % 2 == 0 ? 5 : 1)) % 5);
            for (int square = 0; square < 30; square++) {
                int from = square;
                if (square / 6 == rw / 2) {
                    from = square / 6 * 6 + (square % 6 + (rw % 2 == 0 ? 5 : 1)) % 6;
                }
                DUE.is("sort of " + square + " by " + rw, x.of(square, 0), from % 5);
                DUE.is("thick of " + square + " by " + rw, x.of(square, 1), from % 10);
                DUE.is("worn of " + square + " by " + rw, x.of(square, 2), from % 13);
            }
            DUE.is("led", x.led(1), 1);
        }
    }

    /** "to the right (way 0) or to the left (1), round." */
    private static void pullRound() {
        for (int rw = 0; rw <= 9; rw++) {
            EiderClimate x = new EiderClimate();
            int at = rw / 2 * 6;
            Edge.square(x, at, 3, 7, 11);
            for (int i = 1; i <= 6; i++) {
                DUE.is("what is at X 0", x.pull(rw), i == 6 ? 3 : 0);
                int now = at + (rw % 2 == 0 ? i : 6 - i) % 6;
                DUE.is("sort at " + now, x.of(now, 0), 3);
                DUE.is("thick at " + now, x.of(now, 1), 7);
                DUE.is("worn at " + now, x.of(now, 2), 11);
            }
        }
    }

    /** "which SORT is at X 0 of it then". */
    private static void pullTellsX0() {
        for (int sort = 0; sort <= 4; sort++) {
            EiderClimate x = new EiderClimate();
            x.mend(29, 0, sort);
            x.mend(25, 0, 4 - sort);
            DUE.is("to the right", x.pull(8), sort);
            DUE.is("back to the left", x.pull(9), 0);
            DUE.is("to the left", x.pull(9), 4 - sort);
        }
    }

    /** "a SQUARE that is not at the rim", "BAD (at the rim, too)." */
    private static void shakeAtTheRim() {
        for (int square : Edge.outside(0, 29)) {
            LIVED.changesNothing("shake(" + square + ")", Edge.BAD, x -> x.shake(square));
        }
        for (int square = 0; square < 30; square++) {
            int at = square;
            if (square < 6 || square > 23 || square % 6 == 0 || square % 6 == 5) {
                LIVED.changesNothing("shake(" + square + ")", Edge.BAD, x -> x.shake(at));
            } else {
                BARE.answers("shake(" + square + ")", 0, x -> x.shake(at));
                BARE.answers("shake(" + square + ") led", 1, x -> Edge.behind(x.shake(at), x.led(2)));
            }
        }
    }

    /** "THICK of the nine SQUARES .. becomes their sum by 9 (cut) each; what is over goes to it (THICK 9 at most". */
    private static void shakeByNine() {
        for (int sum = 0; sum <= 81; sum++) {
            EiderClimate x = new EiderClimate();
            int left = sum;
            for (int k = 0; k < 9; k++) {
                x.mend(7 + k / 3 * 6 + k % 3, 1, Math.min(9, left));
                left -= Math.min(9, left);
            }
            int due = Math.min(9, sum / 9 + sum % 9);
            DUE.is("it of " + sum, x.shake(14), due);
            for (int square = 0; square < 30; square++) {
                boolean about = Math.abs(square / 6 - 2) <= 1 && Math.abs(square % 6 - 2) <= 1;
                DUE.is("thick of " + square + " of " + sum, x.of(square, 1), square == 14 ? due : about ? sum / 9 : 0);
            }
        }
    }

    /** "the nine SQUARES about it (itself, too)": no others. */
    private static void shakeNineOnly() {
        for (int square = 7; square <= 22; square++) {
            if (square % 6 == 0 || square % 6 == 5) {
                continue;
            }
            EiderClimate x = new EiderClimate();
            for (int other = 0; other < 30; other++) {
                x.mend(other, 1, 5);
            }
            x.mend(square, 1, 4);
            DUE.is("44 by nine and 8 over", x.shake(square), 9);
            for (int other = 0; other < 30; other++) {
                boolean about = Math.abs(square / 6 - other / 6) <= 1 && Math.abs(square % 6 - other % 6) <= 1;
                DUE.is("thick of " + other, x.of(other, 1), other == square ? 9 : about ? 4 : 5);
            }
        }
    }

    /** "(THICK 9 at most; the rest is lost)". */
    private static void shakeLosesTheRest() {
        EiderClimate x = new EiderClimate();
        for (int k = 0; k < 9; k++) {
            x.mend(7 + k / 3 * 6 + k % 3, 1, k == 4 ? 8 : 9);
        }
        DUE.is("80: 8 and 8 over", x.shake(14), 9);
        DUE.is("73 are left: 8 and 1 over", x.shake(14), 9);
        DUE.is("none is lost then", x.shake(14), 9);
        DUE.is("beside it", x.of(13, 1), 8);
    }

    /** "SORTS, WORN stay." */
    private static void shakeLeavesSortsAndWorns() {
        EiderClimate x = new EiderClimate();
        for (int square = 0; square < 30; square++) {
            Edge.square(x, square, square % 5, square % 3 * 4, square % 13);
        }
        x.shake(8);
        for (int square = 0; square < 30; square++) {
            DUE.is("sort of " + square, x.of(square, 0), square % 5);
            DUE.is("worn of " + square, x.of(square, 2), square % 13);
        }
    }

    /** "A SQUARE is STUFFED": 0 .. 29. */
    private static void stuffSquares() {
        for (int square : Edge.outside(0, 29)) {
            LIVED.changesNothing("stuff(" + square + ", 11)", Edge.BAD, x -> x.stuff(square, 11));
        }
        for (int square : new int[] {0, 29}) {
            EiderClimate x = new EiderClimate();
            Edge.square(x, square, 1, 2, 12);
            DUE.is("stuff(" + square + ", 38)", x.stuff(square, 38), 1);
            DUE.is("sort", x.of(square, 0), 3);
            DUE.is("thick", x.of(square, 1), 8);
            DUE.is("worn", x.of(square, 2), 0);
            DUE.is("one is stuffed", x.count(1), 1);
        }
    }

    /** "(st: 10 times the SORT 1 .. 4, and THICK 1 .. 9; WORN 0)". */
    private static void stuffSortsAndThicks() {
        for (int st = -1; st <= 111; st++) {
            int told = st;
            boolean so = st >= 11 && st <= 49 && st % 10 > 0;
            if (!so && (st < 20 || st % 10 < 2)) {
                LIVED.changesNothing("stuff(7, " + st + ")", Edge.BAD, x -> x.stuff(7, told));
            } else {
                LIVED.answers("stuff(7, " + st + ")", so ? 3 : Edge.BAD, x -> x.stuff(7, told));
            }
            if (so) {
                LIVED.answers("sort by " + st, st / 10, x -> Edge.behind(x.stuff(7, told), x.of(7, 0)));
                LIVED.answers("thick by " + st, st % 10, x -> Edge.behind(x.stuff(7, told), x.of(7, 1)));
                LIVED.answers("worn by " + st, 0, x -> Edge.behind(x.stuff(7, told), x.of(7, 2)));
            }
        }
        for (int st : Edge.outside(11, 49)) {
            LIVED.changesNothing("stuff(7, " + st + ")", Edge.BAD, x -> x.stuff(7, st));
        }
        for (int st : new int[] {-49, -11, -10}) {
            LIVED.changesNothing("stuff(7, " + st + ")", Edge.BAD, x -> x.stuff(7, st));
        }
    }

    /** "its SORT till then". */
    private static void stuffTillThen() {
        EiderClimate x = new EiderClimate();
        DUE.is("none", x.stuff(5, 11), 0);
        for (int sort = 1; sort <= 4; sort++) {
            DUE.is("till then", x.stuff(5, 10 * (sort % 4 + 1) + 9), sort);
        }
        DUE.is("led", x.led(3), 5);
    }

    /** "LED: months (what 0), PULLS (1), SHAKES (2), STUFFED (3), COLD (4). BAD." */
    private static void ledWhats() {
        for (int what : Edge.outside(0, 4)) {
            LIVED.changesNothing("led(" + what + ")", Edge.BAD, x -> x.led(what));
        }
        int[] want = {3, 2, 1, 1, 8};
        for (int what = 0; what <= 4; what++) {
            int asked = what;
            LIVED.changesNothing("led(" + what + ")", want[what], x -> x.led(asked));
        }
    }

    /** "each month and stitch led": each deed adds to its own number alone. */
    private static void ledEachByItself() {
        for (int deed = 0; deed < 4; deed++) {
            EiderClimate x = new EiderClimate();
            for (int i = 1; i <= 3; i++) {
                DUE.is("deed", deed == 0 ? x.month() : deed == 1 ? x.pull(9) : deed == 2 ? x.shake(22) : x.stuff(29, 22) % 2, 0);
                for (int what = 0; what <= 4; what++) {
                    DUE.is("led(" + what + ") by deed " + deed, x.led(what), what == deed ? i : 0);
                }
            }
        }
    }

    /** "What is answered so changes nothing.": nor do thoughts lead anything. */
    private static void refusedIsNotLed() {
        EiderClimate x = new EiderClimate();
        x.house(3, 9);
        x.pull(10);
        x.shake(0);
        x.stuff(0, 10);
        x.later(48, 0, 0);
        x.cold(48, 0);
        x.pulls(0, -1);
        x.shakes(0);
        x.stuffs(2, 0);
        x.drawn(1, 3024, -1);
        for (int what = 0; what <= 4; what++) {
            DUE.is("led(" + what + ")", x.led(what), 0);
        }
    }

    /** "STATE: there is none." */
    private static void backWithoutImage() {
        BARE.changesNothing("back()", Edge.STATE, x -> x.back());
        Edge without = new Edge(DUE, x -> {
            Edge.square(x, 3, 2, 5, 7);
            x.month();
        });
        without.changesNothing("back() in a life", Edge.STATE, x -> x.back());
        BARE.answers("an image of nothing is one", 0, x -> x.image() + x.back());
    }

    /** "AN IMAGE keeps SQUARES, MONTH, what LED tells." */
    private static void imageKeepsWhatItKeeps() {
        EiderClimate x = new EiderClimate();
        x.house(2, 99);
        for (int square = 0; square < 30; square++) {
            Edge.square(x, square, square % 5, square % 10, square % 12);
        }
        x.month();
        x.pull(0);
        x.pull(1);
        x.mend(0, 6, 11);
        DUE.is("months", x.image(), 1);
        int[] was = new int[90];
        for (int i = 0; i < 90; i++) {
            was[i] = x.of(i / 3, i % 3);
        }
        x.month();
        x.pull(4);
        x.shake(14);
        x.stuff(3, 49);
        x.mend(9, 0, 1);
        x.mend(9, 1, 9);
        x.mend(9, 2, 12);
        DUE.is("months", x.back(), 1);
        for (int i = 0; i < 90; i++) {
            DUE.is("of(" + i / 3 + ", " + i % 3 + ")", x.of(i / 3, i % 3), was[i]);
        }
        DUE.is("MONTH", x.of(0, 6), 11);
        int[] want = {1, 2, 0, 0, 1};
        for (int what = 0; what <= 4; what++) {
            DUE.is("led(" + what + ")", x.led(what), want[what]);
        }
    }

    /** What an image does not keep is as it was ahead of back(): houses, SLIP, law, tape, changes, bodies, shelves. */
    private static void imageKeepsNoMore() {
        EiderClimate x = new EiderClimate();
        x.image();
        x.house(2, 99);
        x.mend(0, 3, 4);
        x.mend(0, 5, 7);
        x.mend(0, 7, 12);
        Edge.tell(x, "7");
        Edge.feed(x, "abc");
        x.body(1);
        x.keep(2, 0);
        Edge.row(x, 3, 2, 8);
        x.act(0, 0, 5);
        DUE.is("months", x.back(), 0);
        DUE.is("houses", x.count(0), 1);
        DUE.is("PLACE", x.of(0, 3), 4);
        DUE.is("MONTHS", x.of(0, 5), 7);
        DUE.is("SLIP", x.of(0, 7), 12);
        DUE.is("law", x.later(0, 0, 0), 7);
        DUE.is("tape", x.count(2), 3);
        DUE.is("changes", x.count(3), 3);
        DUE.is("bodies", x.count(4), 1);
        DUE.is("shelf", x.taken(2, 1), 1);
        DUE.is("row", x.element(3, 0), 8);
        DUE.is("ran", x.count(5), 2);
    }

    /** "It is laid back: months.": as often as wanted, the latest one. */
    private static void imageCanBeLaidBackAgain() {
        EiderClimate x = new EiderClimate();
        for (int i = 0; i < 3; i++) {
            x.month();
            DUE.is("months kept", x.image(), i + 1);
            for (int k = 0; k < 3; k++) {
                x.stuff(5, 11 + k);
                x.month();
                DUE.is("months laid back", x.back(), i + 1);
                DUE.is("the square", x.of(5, 0), 0);
                DUE.is("MONTH", x.of(0, 6), i + 1);
            }
        }
        x.mend(0, 7, 4);
        x.mend(3, 0, 1);
        x.month();
        DUE.is("months laid back count for SLIP", x.of(9, 0), 1);
    }

    /** "STATE: none." of undo(). */
    private static void undoNone() {
        BARE.changesNothing("undo()", Edge.STATE, x -> x.undo());
        Edge undone = new Edge(DUE, x -> {
            x.mend(3, 0, 2);
            x.undo();
        });
        undone.changesNothing("undo() behind the first", Edge.STATE, x -> x.undo());
        undone.answers("redo() then", 0, x -> x.redo());
        Edge deeds = new Edge(DUE, x -> {
            x.house(3, 3);
            x.stuff(3, 11);
            x.month();
            x.image();
            x.back();
            x.body(0);
            Edge.tell(x, "s");
            x.mend(0, 0, 0);
            x.mend(0, 0, 5);
        });
        deeds.changesNothing("undo() of deeds", Edge.STATE, x -> x.undo());
    }

    /** "STATE: none." of redo(). */
    private static void redoNone() {
        BARE.changesNothing("redo()", Edge.STATE, x -> x.redo());
        Edge told = new Edge(DUE, x -> x.mend(3, 0, 2));
        told.changesNothing("redo() with none undone", Edge.STATE, x -> x.redo());
        Edge again = new Edge(DUE, x -> {
            x.mend(3, 0, 2);
            x.mend(3, 1, 2);
            x.undo();
            x.undo();
            x.redo();
            x.redo();
        });
        again.changesNothing("redo() behind the last", Edge.STATE, x -> x.redo());
    }

    /** "the latest first", "how many may still be". */
    private static void undoTheLatestFirst() {
        EiderClimate x = new EiderClimate();
        for (int v = 1; v <= 9; v++) {
            x.mend(3, 1, v);
        }
        for (int v = 8; v >= 0; v--) {
            DUE.is("undo", x.undo(), v);
            DUE.is("thick", x.of(3, 1), v);
            DUE.is("count", x.count(3), v);
        }
        for (int v = 1; v <= 9; v++) {
            DUE.is("redo", x.redo(), 9 - v);
            DUE.is("thick", x.of(3, 1), v);
            DUE.is("count", x.count(3), v);
        }
    }

    /** "CHANGES (all numbers of mend()": each what, of the first and the last number. */
    private static void undoEachNumber() {
        int[] most = {4, 9, 12, 29, 99, 4095, 11, 12};
        for (int what = 0; what < 8; what++) {
            for (int number : new int[] {0, what < 3 ? 29 : what < 6 ? 7 : 0}) {
                EiderClimate x = new EiderClimate();
                for (int i = 0; i < 8; i++) {
                    x.house(1, 1);
                }
                x.mend(number, what, 2);
                x.mend(number, what, most[what]);
                DUE.is("undo " + what, x.undo(), 1);
                DUE.is("of " + what, x.of(number, what), 2);
                DUE.is("redo " + what, x.redo(), 0);
                DUE.is("of " + what, x.of(number, what), most[what]);
                DUE.is("another", what < 6 ? x.of(number == 0 ? 1 : 0, what) : 0, what == 5 ? 4095 : what == 3 || what == 4 ? 1 : 0);
            }
        }
    }

    /** "telling the same number is none". */
    private static void theSameIsNoChange() {
        EiderClimate x = new EiderClimate();
        x.house(3, 3);
        int[] same = {0, 0, 0, 3, 3, 4095, 0, 0};
        for (int what = 0; what < 8; what++) {
            DUE.is("the same", x.mend(0, what, same[what]), same[what]);
            DUE.is("is none", x.count(3), 0);
        }
        x.mend(0, 1, 5);
        x.undo();
        DUE.is("the same as it was before", x.mend(0, 1, 0), 0);
        DUE.is("does not end what can be done again", x.redo(), 0);
        DUE.is("thick", x.of(0, 1), 5);
        x.stuff(0, 17);
        DUE.is("the same as by a deed", x.mend(0, 1, 7), 7);
        DUE.is("is none", x.count(3), 1);
    }

    /** "DONE AGAIN (as long as no other came behind)". */
    private static void anotherCameBehind() {
        Edge undone = new Edge(DUE, x -> {
            x.house(3, 3);
            x.mend(3, 0, 1);
            x.mend(3, 1, 1);
            x.mend(3, 2, 1);
            x.undo();
            x.undo();
        });
        undone.answers("none came", 1, x -> x.redo());
        undone.answers("another came", Edge.STATE, x -> Edge.behind(x.mend(4, 0, 1), x.redo()));
        undone.answers("the same one came", Edge.STATE, x -> Edge.behind(x.mend(3, 1, 1), x.redo()));
        undone.answers("how many may be undone then", 2, x -> Edge.behind(x.mend(4, 0, 1), x.count(3)));
        undone.answers("a wrong one is none", 1, x -> Edge.behind(x.mend(3, 0, 5), x.redo()));
        undone.answers("a wrong number is none", 1, x -> Edge.behind(x.mend(30, 0, 1), x.redo()));
        undone.answers("deeds are none", 1, x -> Edge.behind(x.month() + x.pull(0) + x.stuff(9, 11) + x.shake(14), x.redo()));
        undone.answers("a house is none", 1, x -> Edge.behind(x.house(0, 0), x.redo()));
        undone.answers("a law is none", 1, x -> Edge.behind(Edge.tell(x, "1"), x.redo()));
    }

    /** "40 at most are kept": the oldest is forgotten. */
    private static void fortyAtMost() {
        for (int told : new int[] {39, 40, 41, 80, 100}) {
            EiderClimate x = new EiderClimate();
            for (int i = 1; i <= told; i++) {
                x.mend(0, 1, i % 2 == 1 ? 1 : 2);
            }
            int kept = Math.min(40, told);
            DUE.is(told + " are told", x.count(3), kept);
            for (int left = kept - 1; left >= 0; left--) {
                DUE.is("undo", x.undo(), left);
            }
            DUE.is("no more", x.undo(), Edge.STATE);
            int forgotten = told - kept;
            DUE.is("as behind those that are forgotten", x.of(0, 1), forgotten == 0 ? 0 : forgotten % 2 == 1 ? 1 : 2);
            for (int left = kept - 1; left >= 0; left--) {
                DUE.is("redo", x.redo(), left);
            }
            DUE.is("no more", x.redo(), Edge.STATE);
            DUE.is("as told", x.of(0, 1), told % 2 == 1 ? 1 : 2);
            x.mend(0, 1, 9);
            DUE.is("one more", x.count(3), Math.min(40, kept + 1));
            DUE.is("undo it", x.undo(), Math.min(40, kept + 1) - 1);
        }
        eachOfFortyIsItself();
        Edge forty = new Edge(DUE, x -> {
            for (int i = 0; i < 40; i++) {
                x.mend(i % 30, i / 30, 1);
            }
        });
        forty.changesNothing("full, a wrong one forgets none", Edge.BAD, x -> x.mend(0, 0, 5));
        forty.changesNothing("full, the same forgets none", 1, x -> x.mend(0, 0, 1));
    }

    /** Changes of many squares and numbers, of which the first nine are forgotten. */
    private static void eachOfFortyIsItself() {
        EiderClimate x = new EiderClimate();
        int[] was = new int[49];
        for (int i = 0; i < 49; i++) {
            was[i] = x.mend(squareOf(i), whatOf(i), numberOf(i));
        }
        DUE.is("forty", x.count(3), 40);
        for (int i = 48; i >= 9; i--) {
            DUE.is("undo", x.undo(), i - 9);
            DUE.is("undone " + i, x.of(squareOf(i), whatOf(i)), was[i]);
        }
        for (int i = 0; i < 9; i++) {
            DUE.is("forgotten " + i, x.of(squareOf(i), whatOf(i)), numberOf(i));
        }
        for (int i = 9; i < 49; i++) {
            DUE.is("redo", x.redo(), 48 - i);
            DUE.is("done again " + i, x.of(squareOf(i), whatOf(i)), numberOf(i));
        }
    }

    private static int squareOf(int i) {
        return i % 7 * 4;
    }

    private static int whatOf(int i) {
        return i / 7 % 2 + 1;
    }

    /** Another one than 14 changes before, when the same number of the same square was told. */
    private static int numberOf(int i) {
        return i / 14 + i % 3 * 2 + 1;
    }

    /** "deeds are none (SORTS, THICK, WORN, MONTH by them, too)". */
    private static void deedsAreNone() {
        EiderClimate x = new EiderClimate();
        Edge.square(x, 8, 1, 8, 11);
        x.month();
        x.pull(2);
        x.shake(14);
        x.stuff(0, 11);
        DUE.is("three are told", x.count(3), 3);
        DUE.is("undo", x.undo(), 2);
        DUE.is("WORN as it was ahead of being told", x.of(8, 2), 0);
        DUE.is("THICK is as by deeds", x.of(0, 1), 1);
        DUE.is("MONTH is as by deeds", x.of(0, 6), 1);
        x.mend(0, 6, 5);
        x.month();
        DUE.is("undo", x.undo(), 2);
        DUE.is("MONTH as it was ahead of being told", x.of(0, 6), 1);
        DUE.is("months that passed stay", x.led(0), 2);
    }
}
