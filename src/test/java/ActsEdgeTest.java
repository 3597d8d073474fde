/** The edges of promises 30 to 39, a test for each sentence of the document that names one. */
public final class ActsEdgeTest {
    private static final Due DUE = new Due("ActsEdgeTest");
    private static final Edge LIVED = new Edge(DUE, Edge::live);
    private static final Edge BARE = new Edge(DUE, x -> { });
    private static final Edge FIFTY_BODIES = new Edge(DUE, ActsEdgeTest::fiftyBodies);
    private static final int NOTHING = -11, OTHER_KIND = -12, NO_PLACE = -13, SIZE_BELOW = -14;
    private static final long NONE = Long.MIN_VALUE;
    private static final int[] ABOVE = {-1, 0, 0, 2, 1, 3, 0, 4};

    public static void main(String[] args) {
        bodyKinds();
        bodyNumbers();
        bodyFull();
        actBodiesAndActs();
        actRefusedLeavesTheRest();
        actsWrap();
        actsByNumber();
        bodiesOfTheNextKindAbove();
        tracePlaces();
        traceOfTheLatestAct();
        keepShelves();
        keepBodies();
        keepTakesThePlace();
        rowShelvesAndSorts();
        rowSizes();
        rowRefusedIsAsItWas();
        rowIsNewEachTime();
        putShelves();
        putKinds();
        putPlaces();
        putLowestBits();
        elementRefused();
        shiftShelves();
        shiftNothing();
        shiftOtherKinds();
        shiftPlaces();
        shiftSizes();
        shiftAsTheyAllWereBefore();
        takenShelvesAndKinds();
        takenNothingAndOthers();
        takenOfEachKind();
        countWhats();
        countsFromNoneToFull();
        DUE.end();
    }

    private static void fiftyBodies(EiderClimate x) {
        for (int i = 0; i < 50; i++) {
            x.body(i % 8);
        }
    }

    /** "A STITCH of a KIND (0 .. 7)", "BAD". */
    private static void bodyKinds() {
        for (int kind : Edge.outside(0, 7)) {
            LIVED.changesNothing("body(" + kind + ")", Edge.BAD, x -> x.body(kind));
            FIFTY_BODIES.changesNothing("full, body(" + kind + ")", Edge.BAD, x -> x.body(kind));
        }
        BARE.answers("body(0)", 0, x -> x.body(0));
        BARE.answers("body(7)", 0, x -> x.body(7));
        BARE.answers("its kind", 7, x -> Edge.behind(x.body(7) + x.keep(0, 0), x.taken(0, 0)));
    }

    /** "BODIES 0 .. 49", "is kept: its number". */
    private static void bodyNumbers() {
        EiderClimate x = new EiderClimate();
        for (int i = 0; i < 50; i++) {
            DUE.is("not yet, " + i, x.keep(0, i), Edge.BAD);
            DUE.is("body", x.body(0), i);
            DUE.is("keep " + i, x.keep(0, i), 1);
            DUE.is("its number counts", x.act(i, 0, 100), 100 + i);
            DUE.is("how many", x.count(4), i + 1);
        }
    }

    /** "FULL". */
    private static void bodyFull() {
        FIFTY_BODIES.changesNothing("the 51st", Edge.FULL, x -> x.body(0));
        FIFTY_BODIES.changesNothing("the 51st, of 7", Edge.FULL, x -> x.body(7));
    }

    /** "An ACT (0 .. 3) of a STITCH with x. 0, and no TRACE then: no such STITCH, ACT." */
    private static void actBodiesAndActs() {
        for (int body : Edge.outside(0, 7)) {
            noSuch(body, 0);
        }
        for (int act : Edge.outside(0, 3)) {
            noSuch(0, act);
        }
        BARE.changesNothing("no STITCH at all", 0, x -> x.act(0, 0, 9));
        FIFTY_BODIES.answers("the last one", 49 + 9 + 3, x -> x.act(49, 0, 9));
        FIFTY_BODIES.answers("behind the last one", 0, x -> x.act(50, 0, 9));
        LIVED.answers("the last act", 5, x -> Edge.behind(x.act(6, 3, 0), x.count(5)));
    }

    private static void noSuch(int body, int act) {
        EiderClimate x = new EiderClimate();
        Edge.live(x);
        String call = "act(" + body + ", " + act + ", 5)";
        DUE.is("bodies ran before " + call, x.count(5), 14);
        DUE.is(call, x.act(body, act, 5), 0);
        DUE.is("none ran by " + call, x.count(5), 0);
        for (int i = 0; i < 24; i++) {
            DUE.is("no TRACE then, " + i, x.trace(i), Edge.BAD);
        }
    }

    /** "What is answered so changes nothing." But THE TRACE all is as it was. */
    private static void actRefusedLeavesTheRest() {
        Edge traceless = new Edge(DUE, x -> {
            Edge.live(x);
            x.act(-1, 0, 0);
        });
        traceless.changesNothing("act(8, 0, 5)", 0, x -> x.act(8, 0, 5));
        traceless.changesNothing("act(0, 4, 5)", 0, x -> x.act(0, 4, 5));
        traceless.changesNothing("trace(0)", Edge.BAD, x -> x.trace(0));
    }

    /** "x (an int that wraps)". */
    private static void actsWrap() {
        EiderClimate x = new EiderClimate();
        for (int kind = 0; kind < 8; kind++) {
            x.body(kind);
        }
        int most = Integer.MAX_VALUE;
        int least = Integer.MIN_VALUE;
        DUE.is("warms, 1: most + 1 + 3", x.act(1, 0, most), least + 3);
        DUE.is("warms, 6: (most + 6) * 2", x.act(6, 0, most), 10);
        DUE.is("slips, 0: least * 2", x.act(0, 1, least), 0);
        DUE.is("slips, 0: 2 to the 30th * 2", x.act(0, 1, 1 << 30), least);
        DUE.is("slips, 2: the least has none above 0", x.act(2, 1, (1 << 30) - 2), least);
        DUE.is("slips, 3: most + 1", x.act(3, 1, most), -((least + 3) * 2));
        DUE.is("airs, 3: * 3", x.act(3, 2, most), (most ^ 3) * 3);
        DUE.is("airs, 4: least - 9", x.act(4, 2, least), (least ^ 4) - 9);
        DUE.is("tells, 0: least - 1", x.act(0, 3, 1 << 30), most);
        DUE.is("tells, 5", x.act(5, 3, most), (-((least + 5) * 2) - (1 ^ 5) * 3) ^ 5);
        DUE.is("tells, 7", x.act(7, 3, least), (least + 10) * 2 + ((2 ^ 7) - 12) - ((1 ^ 7) - 12) - 1);
    }

    /** "n its number". */
    private static void actsByNumber() {
        EiderClimate x = new EiderClimate();
        fiftyBodies(x);
        for (int n = 0; n < 50; n += 8) {
            DUE.is("warms of " + n, x.act(n, 0, -n), 0);
            DUE.is("airs of " + n, x.act(n, 2, n), 0);
            DUE.is("slips of " + n, x.act(n, 1, 1), 2 * (n + 1));
        }
        DUE.is("of kind 1, number 49", x.act(49, 0, 0), 52);
        DUE.is("of kind 0, number 48", x.act(48, 0, 0), 48);
    }

    /** "the body of its own KIND, or of the next KIND above that has one; super: from the KIND above the body's on." */
    private static void bodiesOfTheNextKindAbove() {
        int[][] own = {{1, 10, 11, 2}, {20, 10, 11, 2}, {1, 30, 11, 2}, {1, 41, 40, 2}, {20, 10, 50, 2}, {1, 41, 40, 60},
            {70, 10, 11, 2}, {20, 80, 50, 81}};
        EiderClimate x = new EiderClimate();
        for (int kind = 0; kind < 8; kind++) {
            x.body(kind);
            for (int act = 0; act < 4; act++) {
                x.act(kind, act, 3);
                DUE.is("kind " + kind + ", act " + act, x.trace(0), own[kind][act]);
            }
        }
        x.act(3, 1, 3);
        DUE.is("super of 41", x.trace(1), 30);
        DUE.is("super of 30", x.trace(2), 10);
        x.act(7, 1, 3);
        DUE.is("super of 80 is above DUCK and DOWN", x.trace(1), 10);
        DUE.is("warms(..) of it is its own kind's", x.trace(2), 20);
    }

    /** "THE TRACE's i-th body. BAD.", "the first 24 are kept". */
    private static void tracePlaces() {
        LIVED.changesNothing("trace(0)", 81, x -> x.trace(0));
        LIVED.changesNothing("trace(13)", 1, x -> x.trace(13));
        for (int i : new int[] {Integer.MIN_VALUE, -65536, -1, 14, 23, 24, 25, 65536, Integer.MAX_VALUE}) {
            LIVED.changesNothing("trace(" + i + ")", Edge.BAD, x -> x.trace(i));
        }
        BARE.changesNothing("trace(0) of nothing", Edge.BAD, x -> x.trace(0));
    }

    /** "numbers of the bodies that ran in the latest act(), as they began". */
    private static void traceOfTheLatestAct() {
        EiderClimate x = new EiderClimate();
        Edge.live(x);
        x.act(0, 2, 1);
        DUE.is("one ran", x.count(5), 1);
        DUE.is("it", x.trace(0), 11);
        for (int i = 1; i < 15; i++) {
            DUE.is("none of those before, " + i, x.trace(i), Edge.BAD);
        }
    }

    /** "SHELVES 0 .. 5", "BAD". */
    private static void keepShelves() {
        for (int shelf : Edge.outside(0, 5)) {
            LIVED.changesNothing("keep(" + shelf + ", 0)", Edge.BAD, x -> x.keep(shelf, 0));
            LIVED.changesNothing("keep(" + shelf + ", -1)", Edge.BAD, x -> x.keep(shelf, -1));
        }
        for (int shelf = 0; shelf < 6; shelf++) {
            EiderClimate x = new EiderClimate();
            x.body(2);
            DUE.is("keep(" + shelf + ", 0)", x.keep(shelf, 0), 1);
            for (int other = 0; other < 6; other++) {
                DUE.is("held on " + other, x.taken(other, 0), other == shelf ? 2 : NOTHING);
            }
        }
    }

    /** "holds nothing (body -1), or a STITCH: 1. BAD." */
    private static void keepBodies() {
        for (int body : Edge.outside(-1, 7)) {
            for (int shelf = 0; shelf < 6; shelf++) {
                int on = shelf;
                LIVED.changesNothing("keep(" + shelf + ", " + body + ")", Edge.BAD, x -> x.keep(on, body));
            }
        }
        BARE.changesNothing("no bodies", Edge.BAD, x -> x.keep(0, 0));
        BARE.changesNothing("nothing where nothing is", 1, x -> x.keep(0, -1));
        LIVED.changesNothing("the same again", 1, x -> x.keep(3, 4));
        FIFTY_BODIES.answers("the last one", 1, x -> x.keep(5, 49));
        for (int body = 0; body < 50; body++) {
            int which = body;
            FIFTY_BODIES.answers("it is " + body, body % 8, x -> Edge.behind(x.keep(5, which), x.taken(5, 0)));
        }
        FIFTY_BODIES.changesNothing("behind the last one", Edge.BAD, x -> x.keep(5, 50));
    }

    /** "each hold nothing .., a STITCH .., or a ROW": one of them. */
    private static void keepTakesThePlace() {
        EiderClimate x = new EiderClimate();
        x.body(6);
        Edge.row(x, 1, 3, 5, 6);
        x.keep(1, 0);
        DUE.is("no ROW is there", x.put(1, 0, 1), OTHER_KIND);
        DUE.is("a STITCH is", x.taken(1, 6), 6);
        x.row(1, 3, 2);
        DUE.is("no STITCH is there", x.taken(1, 6), OTHER_KIND);
        DUE.is("what the ROW before had is gone", x.element(1, 0), 0);
        x.keep(1, -1);
        DUE.is("nothing is there", x.put(1, 0, 1), NOTHING);
        DUE.is("nothing is there", x.taken(1, 6), NOTHING);
        DUE.is("nothing is there", x.element(1, 0), NONE);
        DUE.is("the STITCH itself is kept", x.act(0, 0, 1), 2);
    }

    /** "0 bytes, 1 shorts, 2 ints, 3 longs, 4 booleans", "BAD (sort". */
    private static void rowShelvesAndSorts() {
        for (int shelf : Edge.outside(0, 5)) {
            LIVED.changesNothing("row(" + shelf + ", 0, 1)", Edge.BAD, x -> x.row(shelf, 0, 1));
        }
        for (int sort : Edge.outside(0, 4)) {
            LIVED.changesNothing("row(0, " + sort + ", 1)", Edge.BAD, x -> x.row(0, sort, 1));
            LIVED.changesNothing("row(0, " + sort + ", -1)", Edge.BAD, x -> x.row(0, sort, -1));
        }
        for (int shelf = 0; shelf < 6; shelf++) {
            for (int sort = 0; sort <= 4; sort++) {
                int on = shelf;
                int of = sort;
                LIVED.answers("row(" + shelf + ", " + sort + ", 1)", 1, x -> x.row(on, of, 1));
            }
        }
    }

    /** "of 0 .. 60 elements", "BAD (.. n above 60); -14." */
    private static void rowSizes() {
        for (int n : new int[] {61, 62, 128, 256, 65536, Integer.MAX_VALUE}) {
            LIVED.changesNothing("row(0, 0, " + n + ")", Edge.BAD, x -> x.row(0, 0, n));
        }
        for (int n : new int[] {-1, -2, -60, -256, -65536, Integer.MIN_VALUE}) {
            LIVED.changesNothing("row(0, 0, " + n + ")", SIZE_BELOW, x -> x.row(0, 0, n));
            LIVED.changesNothing("row(4, 0, " + n + ")", SIZE_BELOW, x -> x.row(4, 0, n));
            LIVED.changesNothing("row(6, 0, " + n + ")", Edge.BAD, x -> x.row(6, 0, n));
            LIVED.changesNothing("row(-1, 0, " + n + ")", Edge.BAD, x -> x.row(-1, 0, n));
            LIVED.changesNothing("row(0, 5, " + n + ")", Edge.BAD, x -> x.row(0, 5, n));
        }
        for (int n : new int[] {0, 1, 59, 60}) {
            for (int sort = 0; sort <= 4; sort++) {
                EiderClimate x = new EiderClimate();
                DUE.is("row(0, " + sort + ", " + n + ")", x.row(0, sort, n), 1);
                DUE.is("its last", x.put(0, n - 1, 1), n == 0 ? NO_PLACE : 1);
                DUE.is("behind its last", x.put(0, n, 1), NO_PLACE);
                DUE.is("behind its last", x.element(0, n), NONE);
            }
        }
    }

    /** "What is answered so changes nothing.": a refused ROW leaves the one that is there. */
    private static void rowRefusedIsAsItWas() {
        EiderClimate x = new EiderClimate();
        Edge.row(x, 2, 3, 7, 8, 9);
        x.row(2, 3, 61);
        x.row(2, 3, -1);
        x.row(2, 5, 1);
        for (int i = 0; i < 3; i++) {
            DUE.is("element " + i, x.element(2, i), 7 + i);
        }
        DUE.is("no more", x.element(2, 3), NONE);
    }

    /** "0 at first (false)". */
    private static void rowIsNewEachTime() {
        EiderClimate x = new EiderClimate();
        for (int sort = 0; sort <= 4; sort++) {
            x.row(2, sort, 60);
            for (int i : new int[] {0, 1, 58, 59}) {
                DUE.is("sort " + sort + ", element " + i, x.element(2, i), 0);
                x.put(2, i, 1);
            }
            x.row(2, sort, 60);
            DUE.is("new, the first", x.element(2, 0), 0);
            DUE.is("new, the last", x.element(2, 59), 0);
            x.put(2, 59, 1);
            x.row(2, sort, 59);
        }
    }

    /** "BAD" of put() and element(). */
    private static void putShelves() {
        for (int shelf : Edge.outside(0, 5)) {
            LIVED.changesNothing("put(" + shelf + ", 0, 9)", Edge.BAD, x -> x.put(shelf, 0, 9));
            LIVED.changesNothing("put(" + shelf + ", -1, 9)", Edge.BAD, x -> x.put(shelf, -1, 9));
            LIVED.changesNothing("element(" + shelf + ", 0)", NONE, x -> x.element(shelf, 0));
        }
    }

    /** "-11, -12", ahead of "-13". */
    private static void putKinds() {
        for (int i : new int[] {Integer.MIN_VALUE, -1, 0, 59, 60, Integer.MAX_VALUE}) {
            LIVED.changesNothing("put(4, " + i + ", 9)", NOTHING, x -> x.put(4, i, 9));
            LIVED.changesNothing("put(3, " + i + ", 9)", OTHER_KIND, x -> x.put(3, i, 9));
            LIVED.changesNothing("element(4, " + i + ")", NONE, x -> x.element(4, i));
            LIVED.changesNothing("element(3, " + i + ")", NONE, x -> x.element(3, i));
        }
    }

    /** "-13 a place that is not there". */
    private static void putPlaces() {
        for (int i : new int[] {Integer.MIN_VALUE, -65536, -1, 3, 4, 59, 60, 65536, Integer.MAX_VALUE}) {
            LIVED.changesNothing("put(0, " + i + ", 9)", NO_PLACE, x -> x.put(0, i, 9));
            LIVED.changesNothing("element(0, " + i + ")", NONE, x -> x.element(0, i));
        }
        EiderClimate x = new EiderClimate();
        x.row(5, 3, 60);
        for (int i = 0; i < 60; i++) {
            DUE.is("put", x.put(5, i, 100L + i), 1);
        }
        for (int i = 0; i < 60; i++) {
            DUE.is("element", x.element(5, i), 100L + i);
        }
        DUE.is("put behind", x.put(5, 60, 1), NO_PLACE);
        x.row(5, 3, 0);
        DUE.is("put to none", x.put(5, 0, 1), NO_PLACE);
        DUE.is("element of none", x.element(5, 0), NONE);
    }

    /** "what is put in keeps its lowest bits (a boolean: whether it is not 0; 1 or 0)". */
    private static void putLowestBits() {
        int[] bits = {8, 16, 32, 64};
        for (int sort = 0; sort <= 3; sort++) {
            long most = Long.MAX_VALUE >> 64 - bits[sort];
            long least = -most - 1;
            kept(sort, most, most);
            kept(sort, least, least);
            kept(sort, most + 1, least);
            kept(sort, least - 1, most);
            kept(sort, -1, -1);
            kept(sort, 0, 0);
            kept(sort, 2 * most + 1, -1);
            kept(sort, 2 * most + 2, 0);
            kept(sort, 2 * most + 3, 1);
        }
        for (long v : new long[] {1, -1, 2, 256, 65536, 1L << 32, 1L << 63, Long.MAX_VALUE}) {
            kept(4, v, 1);
        }
        kept(4, 0, 0);
    }

    private static void kept(int sort, long v, long want) {
        EiderClimate x = new EiderClimate();
        x.row(0, sort, 2);
        DUE.is("put", x.put(0, 1, v), 1);
        DUE.is(v + " of sort " + sort, x.element(0, 1), want);
        DUE.is("beside it", x.element(0, 0), 0);
    }

    /** "Long.MIN_VALUE: BAD, -11 to -13.", which a long may be, too. */
    private static void elementRefused() {
        EiderClimate x = new EiderClimate();
        x.row(0, 3, 1);
        x.put(0, 0, NONE);
        DUE.is("the least long itself", x.element(0, 0), NONE);
        DUE.is("it is there", x.put(0, 0, 1), 1);
        LIVED.changesNothing("element(1, 2)", 4095, y -> y.element(1, 2));
        LIVED.changesNothing("element(5, 0)", 1, y -> y.element(5, 0));
    }

    /** "BAD" of shift(), ahead of all else. */
    private static void shiftShelves() {
        for (int shelf : Edge.outside(0, 5)) {
            LIVED.changesNothing("shift(" + shelf + ", 0, 0, 0, 1)", Edge.BAD, x -> x.shift(shelf, 0, 0, 0, 1));
            LIVED.changesNothing("shift(0, 0, " + shelf + ", 0, 1)", Edge.BAD, x -> x.shift(0, 0, shelf, 0, 1));
            LIVED.changesNothing("shift(" + shelf + ", 0, 4, 0, 1)", Edge.BAD, x -> x.shift(shelf, 0, 4, 0, 1));
            LIVED.changesNothing("shift(3, 0, " + shelf + ", -1, 1)", Edge.BAD, x -> x.shift(3, 0, shelf, -1, 1));
        }
    }

    /** "-11 (either)", ahead of -12 and -13. */
    private static void shiftNothing() {
        for (int other = 0; other < 6; other++) {
            int beside = other;
            for (int i : new int[] {-1, 0, 60}) {
                LIVED.changesNothing("shift(4, " + i + ", " + other + ", 0, 1)", NOTHING, x -> x.shift(4, i, beside, 0, 1));
                LIVED.changesNothing("shift(" + other + ", " + i + ", 4, 0, 1)", NOTHING, x -> x.shift(beside, i, 4, 0, 1));
            }
        }
        LIVED.changesNothing("shift(4, 0, 4, 0, 0)", NOTHING, x -> x.shift(4, 0, 4, 0, 0));
    }

    /** "-12 (no ROWS, or of unlike sorts)", ahead of -13. */
    private static void shiftOtherKinds() {
        int[] held = {0, 1, 2, 3, 5};
        for (int shelf : held) {
            for (int other : held) {
                if (shelf != other || shelf == 3) {
                    for (int n : new int[] {Integer.MIN_VALUE, -1, 0, 1, 61, Integer.MAX_VALUE}) {
                        LIVED.changesNothing("shift(" + shelf + ", 0, " + other + ", 0, " + n + ")", OTHER_KIND,
                            x -> x.shift(shelf, 0, other, 0, n));
                    }
                    LIVED.changesNothing("shift(" + shelf + ", -1, " + other + ", 60, 1)", OTHER_KIND,
                        x -> x.shift(shelf, -1, other, 60, 1));
                }
            }
        }
        for (int sort = 0; sort <= 4; sort++) {
            for (int other = 0; other <= 4; other++) {
                EiderClimate x = new EiderClimate();
                Edge.row(x, 0, sort, 1, 1);
                x.row(1, other, 2);
                DUE.is("sorts " + sort + " and " + other, x.shift(0, 0, 1, 0, 2), sort == other ? 2 : OTHER_KIND);
                DUE.is("what is there then", x.element(1, 1), sort == other ? 1 : 0);
            }
        }
    }

    /** "-13": each of i, j at its last place and behind it, on each side. */
    private static void shiftPlaces() {
        for (int n = 0; n <= 4; n++) {
            for (int place : new int[] {Integer.MIN_VALUE, -1, 0, 1, 2, 3, 4, 5, 60, Integer.MAX_VALUE}) {
                EiderClimate x = new EiderClimate();
                Edge.row(x, 0, 2, 1, 2, 3, 4);
                Edge.row(x, 1, 2, 5, 6, 7, 8);
                int due = place >= 0 && place <= 4 - n ? n : NO_PLACE;
                String call = n + " from " + place;
                DUE.is(call, x.shift(0, place, 1, 0, n), due);
                for (int k = 0; k < 4; k++) {
                    DUE.is(call + ": element " + k, x.element(1, k), k < due ? place + k + 1 : 5 + k);
                }
                Edge.row(x, 1, 2, 5, 6, 7, 8);
                call = n + " to " + place;
                DUE.is(call, x.shift(0, 0, 1, place, n), due);
                for (int k = 0; k < 4; k++) {
                    boolean came = k >= place && due > 0 && k < place + n;
                    DUE.is(call + ": element " + k, x.element(1, k), came ? k - place + 1 : 5 + k);
                }
            }
        }
    }

    /** "n elements .. : n": none, all, too many, below 0. */
    private static void shiftSizes() {
        for (int n : new int[] {Integer.MIN_VALUE, -65536, -1, 4, 61, 65536, Integer.MAX_VALUE}) {
            LIVED.changesNothing("shift(0, 0, 0, 0, " + n + ")", NO_PLACE, x -> x.shift(0, 0, 0, 0, n));
            LIVED.changesNothing("shift(0, 1, 0, 1, " + n + ")", NO_PLACE, x -> x.shift(0, 1, 0, 1, n));
        }
        LIVED.changesNothing("all onto themselves", 3, x -> x.shift(0, 0, 0, 0, 3));
        LIVED.changesNothing("none", 0, x -> x.shift(0, 0, 0, 3, 0));
        LIVED.changesNothing("none at the end", 0, x -> x.shift(0, 3, 0, 3, 0));
        LIVED.changesNothing("none behind the end", NO_PLACE, x -> x.shift(0, 4, 0, 0, 0));
        EiderClimate x = new EiderClimate();
        x.row(0, 0, 0);
        x.row(1, 0, 60);
        DUE.is("none of none", x.shift(0, 0, 1, 60, 0), 0);
        DUE.is("one of none", x.shift(0, 0, 1, 0, 1), NO_PLACE);
        DUE.is("one to none", x.shift(1, 0, 0, 0, 1), NO_PLACE);
        DUE.is("sixty", x.shift(1, 0, 1, 0, 60), 60);
        DUE.is("sixty from 1", x.shift(1, 1, 1, 0, 60), NO_PLACE);
        DUE.is("the last to the first", x.shift(1, 59, 1, 0, 1), 1);
    }

    /** "to another one (or the same) from j on, as they all were before". */
    private static void shiftAsTheyAllWereBefore() {
        for (int i = 0; i <= 5; i++) {
            for (int j = 0; j <= 5; j++) {
                for (int n = 0; n <= 5 - Math.max(i, j); n++) {
                    EiderClimate x = new EiderClimate();
                    Edge.row(x, 3, 1, 10, 11, 12, 13, 14);
                    DUE.is("shift", x.shift(3, i, 3, j, n), n);
                    for (int k = 0; k < 5; k++) {
                        boolean came = k >= j && k < j + n;
                        DUE.is(n + " from " + i + " to " + j + ": " + k, x.element(3, k), came ? 10 + i + k - j : 10 + k);
                    }
                }
            }
        }
    }

    /** "taken for a STITCH of KIND k (0 .. 7) ..: BAD". */
    private static void takenShelvesAndKinds() {
        for (int shelf : Edge.outside(0, 5)) {
            LIVED.changesNothing("taken(" + shelf + ", 0)", Edge.BAD, x -> x.taken(shelf, 0));
        }
        for (int k : Edge.outside(0, 7)) {
            for (int shelf = 0; shelf < 6; shelf++) {
                int from = shelf;
                LIVED.changesNothing("taken(" + shelf + ", " + k + ")", Edge.BAD, x -> x.taken(from, k));
            }
        }
    }

    /** "-11, -12". */
    private static void takenNothingAndOthers() {
        for (int k = 0; k <= 7; k++) {
            int kind = k;
            LIVED.changesNothing("nothing for " + k, NOTHING, x -> x.taken(4, kind));
            for (int shelf : new int[] {0, 1, 2, 5}) {
                LIVED.changesNothing("a row for " + k, OTHER_KIND, x -> x.taken(shelf, kind));
            }
        }
    }

    /** "of KIND k .., or under it: its KIND". */
    private static void takenOfEachKind() {
        for (int kind = 0; kind <= 7; kind++) {
            EiderClimate x = new EiderClimate();
            x.body(kind);
            x.keep(0, 0);
            for (int k = 0; k <= 7; k++) {
                boolean under = false;
                for (int at = kind; at >= 0; at = ABOVE[at]) {
                    under |= at == k;
                }
                DUE.is(kind + " taken for " + k, x.taken(0, k), under ? kind : OTHER_KIND);
            }
        }
    }

    /** "How many: 0 .. 5 ... BAD." */
    private static void countWhats() {
        for (int what : Edge.outside(0, 5)) {
            LIVED.changesNothing("count(" + what + ")", Edge.BAD, x -> x.count(what));
        }
        int[] want = {3, 5, 2, 17, 8, 14};
        for (int what = 0; what <= 5; what++) {
            int asked = what;
            LIVED.changesNothing("count(" + what + ")", want[what], x -> x.count(asked));
        }
    }

    /** "0 HOUSES, 1 SQUARES of THICK above 0, 2 bytes on THE TAPE, 3 changes that may be UNDONE, 4 BODIES, 5 bodies that ran". */
    private static void countsFromNoneToFull() {
        EiderClimate x = new EiderClimate();
        for (int what = 0; what <= 5; what++) {
            DUE.is("count(" + what + ") at first", x.count(what), 0);
        }
        for (int square = 0; square < 30; square++) {
            x.stuff(square, 11);
            DUE.is("thick squares", x.count(1), square + 1);
        }
        x.mend(29, 1, 0);
        DUE.is("one less", x.count(1), 29);
        DUE.is("one change", x.count(3), 1);
        x.undo();
        DUE.is("thirty", x.count(1), 30);
        DUE.is("an undone change", x.count(3), 0);
        x.redo();
        DUE.is("a change done again", x.count(3), 1);
        EiderClimate y = new EiderClimate();
        y.mend(3, 0, 4);
        y.mend(4, 2, 4);
        DUE.is("sorts and worns are no thick", y.count(1), 0);
    }
}
