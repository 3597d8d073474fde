/**
 * A cover of quilted squares over a shore, and the houses under it, month by month.
 * The document's DOC.md says what each call answers. No call throws: what is not as
 * said is answered by one of the numbers below, and changes nothing.
 */
public final class EiderClimate {
    public static final int BAD = -1, NOT = -2, FULL = -3, STATE = -5, VOID = -2000000000;

    private static final int NOTHING_THERE = -11, OTHER_KIND = -12, NO_PLACE = -13, SIZE_BELOW = -14;

    private static final int WIDTH = 6, HEIGHT = 5, SQUARES = 30, MONTHS_A_YEAR = 12;
    private static final int MOST_HOUSES = 8, MOST_AHEAD = 48, MOST_WARMTH = 99;
    private static final int MOST_THICK = 9, MOST_WORN = 12, ALL_MONTHS = 4095;
    private static final int TAPE_LENGTH = 120, SHELVES = 6, ROW_LENGTH = 60;

    private static final int MONTHS = 0, PULLED = 1, SHAKEN = 2, STUFFED = 3, COLD = 4, LED = 5;

    /** The greatest number that each what of mend() takes; the least is 0. */
    private static final int[] MOST = {4, 9, 12, 29, 99, 4095, 11, 12};
    private static final int SORT = 0, THICK = 1, WORN = 2, PLACE = 3, NEEDS = 4, IN_MONTHS = 5, MONTH = 6, SLIP = 7;

    private final Shore shore;
    private final Tape tape;
    private final Thought thought;
    private final Ways ways;
    private final Changes changes;
    private final Stitches stitches;
    private final Shelf[] shelves;
    private final Cover imageKept;
    private boolean hasImage;

    public EiderClimate() {
        Shore bare = new Shore();
        shore = bare;
        tape = new Tape();
        thought = new Thought(bare);
        ways = new Ways();
        changes = new Changes();
        stitches = new Stitches();
        shelves = new Shelf[SHELVES];
        for (int i = 0; i < SHELVES; i++) {
            shelves[i] = new Shelf();
        }
        imageKept = new Cover();
        hasImage = false;
    }

    // ---- squares, houses

    public int house(int place, int needs) {
        if (!within(place, MOST[PLACE]) || !within(needs, MOST[NEEDS])) {
            return BAD;
        }
        return shore.addHouse(place, needs, ALL_MONTHS);
    }

    public int houses(int shelf, int i, int n) {
        if (!isShelf(shelf) || n < 1 || n > MOST_HOUSES) {
            return BAD;
        }
        Shelf from = shelves[shelf];
        if (from.holds != Shelf.NOTHING && from.holds != Shelf.SHORTS) {
            return OTHER_KIND;
        }
        int came = 0;
        while (came < n && houseCame(from, i, came)) {
            came++;
        }
        return came;
    }

    public int mend(int number, int what, int v) {
        if (!shore.hasNumber(number, what) || !within(v, MOST[what])) {
            return BAD;
        }
        int was = shore.numberOf(number, what);
        if (was != v) {
            shore.setNumber(number, what, v);
            changes.note(number, what, was, v);
        }
        return was;
    }

    public int of(int number, int what) {
        return shore.hasNumber(number, what) ? shore.numberOf(number, what) : BAD;
    }

    public int feed(int letter) {
        if (!within(letter, 255)) {
            return BAD;
        }
        return tape.take(letter) ? tape.length : FULL;
    }

    public int law() {
        int fault = tape.readInto(shore.draft);
        tape.length = 0;
        if (fault >= 0) {
            return -100 - fault;
        }
        shore.enactDraft();
        return 1;
    }

    // ---- months in thought

    public int later(int n, int place, int what) {
        if (!within(n, MOST_AHEAD) || !isSquare(place) || !within(what, 3)) {
            return BAD;
        }
        Cover then = thought.behind(n);
        return what == 0 ? shore.inForce.warmth(then, place) : then.numberAt(place, what - 1);
    }

    public int cold(int n, int what) {
        if (!within(n, MOST_AHEAD) || !within(what, 1)) {
            return BAD;
        }
        Cover then = thought.behind(n);
        return what == 0 ? shore.coldBits(then) : shore.warmestPlace(then);
    }

    public int first(int house) {
        return shore.isHouse(house) ? thought.firstCold(house) : BAD;
    }

    public int often(int house, int n) {
        if (!shore.isHouse(house) || !within(n, MOST_AHEAD)) {
            return BAD;
        }
        return thought.timesCold(house, n);
    }

    public int pulls(int house, int k) {
        if (!shore.isHouse(house) || k < -1) {
            return BAD;
        }
        int fewest = thought.fewestPulls(house);
        if (k < 0 || fewest < 0) {
            return fewest;
        }
        return k < fewest ? thought.chosen[k] : NOT;
    }

    public int shakes(int what) {
        if (!within(what, 1)) {
            return BAD;
        }
        thought.tryShakes();
        return what == 0 ? thought.bestAnswer : thought.fewestCold;
    }

    public int stuffs(int k, int what) {
        if (!within(k, 2) || !within(what, 1)) {
            return BAD;
        }
        thought.tryStuffings(k);
        return what == 0 ? thought.fewestCold : thought.bestAnswer;
    }

    // ---- what is felt

    public int judge(int sp) {
        int refusal = refusalOfBytes(sp);
        return refusal < 0 ? refusal : thought.firstWrong(shelves[sp / 100], sp % 100);
    }

    public int felt(int sp, int square, int what) {
        if (!isSquare(square) || !within(what, 4)) {
            return BAD;
        }
        int refusal = refusalOfBytes(sp);
        if (refusal < 0) {
            return refusal;
        }
        // what 0 asks for sorts, 1 and 2 for thicks, 3 and 4 for worns
        int bits = thought.fitting(shelves[sp / 100], sp % 100, square, (what + 1) / 2);
        if (what == 0) {
            return bits;
        }
        if (what % 2 == 1) {
            return Integer.bitCount(bits);
        }
        return bits == 0 ? NOT : Integer.numberOfTrailingZeros(bits);
    }

    public int walk(int ft, int what) {
        if (ft < 0 || !isSquare(ft / 100) || !isSquare(ft % 100) || !within(what, 1)) {
            return BAD;
        }
        for (int place = 0; place < SQUARES; place++) {
            ways.warm[place] = shore.inForce.warmth(shore.cover, place);
        }
        ways.findWay(ft / 100, ft % 100);
        return what == 0 ? ways.warmest : ways.fewestSteps;
    }

    public int patches(int what) {
        if (!within(what, 1)) {
            return BAD;
        }
        ways.findPatches(shore.cover);
        return what == 0 ? ways.patchesFound : ways.greatestPatch;
    }

    public int byTurns(int hh, int rr, int n, int what) {
        if (hh < 0 || !shore.isHouse(hh / 10) || !shore.isHouse(hh % 10) || hh / 10 == hh % 10) {
            return VOID;
        }
        if (rr < 0 || rr / 10 >= HEIGHT || rr % 10 >= HEIGHT || rr / 10 == rr % 10) {
            return VOID;
        }
        if (n < 1 || n > 4 || !within(what, 1)) {
            return VOID;
        }
        int best = thought.pullByTurns(hh, rr, n);
        return what == 0 ? best : thought.firstDeed;
    }

    public int drawn(int seed, int nm, int house) {
        if (nm < 0 || house != -1 && !shore.isHouse(house)) {
            return BAD;
        }
        int years = nm / 100;
        int months = nm % 100;
        if (years < 1 || years > 30 || months < 1 || months > 24) {
            return BAD;
        }
        return thought.coldByDraws(seed, years, months, house);
    }

    // ---- in deed

    public int month() {
        int cold = Integer.bitCount(shore.coldBits(shore.cover));
        shore.cover.led[COLD] += cold;
        shore.cover.passMonth(shore.slip);
        return cold;
    }

    public int pull(int rw) {
        if (!within(rw, 2 * HEIGHT - 1)) {
            return BAD;
        }
        int line = rw / 2;
        shore.cover.moveRow(line, rw % 2);
        shore.cover.led[PULLED]++;
        return shore.cover.sort[line * WIDTH];
    }

    public int shake(int square) {
        if (!isSquare(square) || !Cover.isInside(square)) {
            return BAD;
        }
        shore.cover.mixAbout(square);
        shore.cover.led[SHAKEN]++;
        return shore.cover.thick[square];
    }

    public int stuff(int square, int st) {
        if (!isSquare(square) || st < 0) {
            return BAD;
        }
        int sort = st / 10;
        int thick = st % 10;
        if (sort < 1 || sort > MOST[SORT] || thick < 1) {
            return BAD;
        }
        int was = shore.cover.sort[square];
        shore.cover.setSquare(square, sort, thick, 0);
        shore.cover.led[STUFFED]++;
        return was;
    }

    public int led(int what) {
        return within(what, LED - 1) ? shore.cover.led[what] : BAD;
    }

    public int image() {
        imageKept.takeFrom(shore.cover);
        hasImage = true;
        return shore.cover.led[MONTHS];
    }

    public int back() {
        if (!hasImage) {
            return STATE;
        }
        shore.cover.takeFrom(imageKept);
        return shore.cover.led[MONTHS];
    }

    public int undo() {
        if (changes.done == 0) {
            return STATE;
        }
        changes.stepBack(shore);
        return changes.done;
    }

    public int redo() {
        if (changes.undone == 0) {
            return STATE;
        }
        changes.stepForth(shore);
        return changes.undone;
    }

    // ---- acts, shelves

    public int body(int kind) {
        return Stitches.isKind(kind) ? stitches.add(kind) : BAD;
    }

    public int act(int body, int act, int x) {
        return stitches.begin(body, act, x);
    }

    public int trace(int i) {
        return i >= 0 && i < stitches.ran && i < Stitches.TRACE_LENGTH ? stitches.traced[i] : BAD;
    }

    public int keep(int shelf, int body) {
        if (!isShelf(shelf) || body != -1 && !stitches.isStitch(body)) {
            return BAD;
        }
        shelves[shelf].holdStitch(body);
        return 1;
    }

    public int row(int shelf, int sort, int n) {
        if (!isShelf(shelf) || !within(sort, Shelf.BOOLEANS) || n > ROW_LENGTH) {
            return BAD;
        }
        if (n < 0) {
            return SIZE_BELOW;
        }
        shelves[shelf].holdRow(sort, n);
        return 1;
    }

    public int put(int shelf, int i, long v) {
        int refusal = refusalOfElement(shelf, i);
        if (refusal < 0) {
            return refusal;
        }
        shelves[shelf].elements[i] = Shelf.lowestBits(shelves[shelf].holds, v);
        return 1;
    }

    public long element(int shelf, int i) {
        return refusalOfElement(shelf, i) < 0 ? Long.MIN_VALUE : shelves[shelf].elements[i];
    }

    public int shift(int shelf, int i, int other, int j, int n) {
        if (!isShelf(shelf) || !isShelf(other)) {
            return BAD;
        }
        Shelf from = shelves[shelf];
        Shelf to = shelves[other];
        if (from.holds == Shelf.NOTHING || to.holds == Shelf.NOTHING) {
            return NOTHING_THERE;
        }
        if (!from.isRow() || from.holds != to.holds) {
            return OTHER_KIND;
        }
        if (!from.hasPlaces(i, n) || !to.hasPlaces(j, n)) {
            return NO_PLACE;
        }
        System.arraycopy(from.elements, i, to.elements, j, n);
        return n;
    }

    public int taken(int shelf, int k) {
        if (!isShelf(shelf) || !Stitches.isKind(k)) {
            return BAD;
        }
        Shelf from = shelves[shelf];
        if (from.holds == Shelf.NOTHING) {
            return NOTHING_THERE;
        }
        if (from.holds != Shelf.STITCH || !stitches.isOfKind(from.stitch, k)) {
            return OTHER_KIND;
        }
        return stitches.kinds[from.stitch];
    }

    public int count(int what) {
        switch (what) {
            case 0: return shore.housesBuilt;
            case 1: return shore.cover.stuffedSquares();
            case 2: return tape.length;
            case 3: return changes.done;
            case 4: return stitches.kept;
            case 5: return stitches.ran;
            default: return BAD;
        }
    }

    private static boolean within(int v, int most) {
        return v >= 0 && v <= most;
    }

    private static boolean isSquare(int square) {
        return square >= 0 && square < SQUARES;
    }

    private static boolean isShelf(int shelf) {
        return shelf >= 0 && shelf < SHELVES;
    }

    /** Whether the next house of a row of shorts came: the row may lack, end, or tell what is none. */
    private boolean houseCame(Shelf from, int i, int came) {
        int left = from.length - 3 * came - 2;
        // a place ahead of the row is no bad number: nothing is there, as behind its end
        if (i < 0 || i >= left || from.holds != Shelf.SHORTS) {
            return false;
        }
        int at = i + 3 * came;
        int place = (int) from.elements[at];
        int needs = (int) from.elements[at + 1];
        int months = (int) from.elements[at + 2];
        if (!within(place, MOST[PLACE]) || !within(needs, MOST[NEEDS]) || !within(months, MOST[IN_MONTHS])) {
            return false;
        }
        return shore.addHouse(place, needs, months) >= 0;
    }

    /** Below 0: why sp tells no row of bytes and a place. */
    private int refusalOfBytes(int sp) {
        if (sp < 0 || !isShelf(sp / 100) || !isSquare(sp % 100)) {
            return BAD;
        }
        int holds = shelves[sp / 100].holds;
        if (holds == Shelf.NOTHING) {
            return NOTHING_THERE;
        }
        return holds == Shelf.BYTES ? 0 : OTHER_KIND;
    }

    /** Below 0: why there is no such element of a row. */
    private int refusalOfElement(int shelf, int i) {
        if (!isShelf(shelf)) {
            return BAD;
        }
        if (shelves[shelf].holds == Shelf.NOTHING) {
            return NOTHING_THERE;
        }
        if (!shelves[shelf].isRow()) {
            return OTHER_KIND;
        }
        return shelves[shelf].hasPlaces(i, 1) ? 0 : NO_PLACE;
    }

    /** The squares, the month and what is led: all that an image keeps. */
    private static final class Cover {
        final int[] sort = new int[SQUARES];
        final int[] thick = new int[SQUARES];
        final int[] worn = new int[SQUARES];
        final int[] led = new int[LED];
        int monthNow;

        void takeFrom(Cover other) {
            System.arraycopy(other.sort, 0, sort, 0, SQUARES);
            System.arraycopy(other.thick, 0, thick, 0, SQUARES);
            System.arraycopy(other.worn, 0, worn, 0, SQUARES);
            System.arraycopy(other.led, 0, led, 0, LED);
            monthNow = other.monthNow;
        }

        int numberAt(int square, int what) {
            return what == SORT ? sort[square] : what == THICK ? thick[square] : worn[square];
        }

        void setNumberAt(int square, int what, int v) {
            if (what == SORT) {
                sort[square] = v;
            } else if (what == THICK) {
                thick[square] = v;
            } else {
                worn[square] = v;
            }
        }

        void setSquare(int square, int itsSort, int itsThick, int itsWorn) {
            sort[square] = itsSort;
            thick[square] = itsThick;
            worn[square] = itsWorn;
        }

        int stuffedSquares() {
            int stuffed = 0;
            for (int square = 0; square < SQUARES; square++) {
                if (thick[square] > 0) {
                    stuffed++;
                }
            }
            return stuffed;
        }

        /** The square up (way 0), right, down or left of one; -1 beyond the rim. */
        static int beside(int square, int way) {
            switch (way) {
                case 0: return square >= WIDTH ? square - WIDTH : -1;
                case 1: return square % WIDTH < WIDTH - 1 ? square + 1 : -1;
                case 2: return square < SQUARES - WIDTH ? square + WIDTH : -1;
                default: return square % WIDTH > 0 ? square - 1 : -1;
            }
        }

        static boolean isInside(int square) {
            int x = square % WIDTH;
            int y = square / WIDTH;
            return x > 0 && x < WIDTH - 1 && y > 0 && y < HEIGHT - 1;
        }

        int thickBeside(int square) {
            int x = square % WIDTH;
            int up = square >= WIDTH ? thick[square - WIDTH] : 0;
            int right = x < WIDTH - 1 ? thick[square + 1] : 0;
            int down = square < SQUARES - WIDTH ? thick[square + WIDTH] : 0;
            int left = x > 0 ? thick[square - 1] : 0;
            return up + right + down + left;
        }

        void passMonth(int slip) {
            wear();
            led[MONTHS]++;
            if (slip > 0 && led[MONTHS] % slip == 0) {
                slideDown(sort);
                slideDown(thick);
                slideDown(worn);
            }
            monthNow = (monthNow + 1) % MONTHS_A_YEAR;
        }

        private void wear() {
            for (int square = 0; square < SQUARES; square++) {
                if (thick[square] > 0) {
                    worn[square]++;
                    // a square may be told to be worn out before the month begins
                    if (worn[square] >= MOST_WORN) {
                        thick[square]--;
                        worn[square] = 0;
                    }
                }
            }
        }

        private static void slideDown(int[] numbers) {
            for (int x = 0; x < WIDTH; x++) {
                int atSea = numbers[SQUARES - WIDTH + x];
                for (int square = SQUARES - WIDTH + x; square >= WIDTH; square -= WIDTH) {
                    numbers[square] = numbers[square - WIDTH];
                }
                numbers[x] = atSea;
            }
        }

        void moveRow(int line, int way) {
            turn(sort, line * WIDTH, way);
            turn(thick, line * WIDTH, way);
            turn(worn, line * WIDTH, way);
        }

        private static void turn(int[] numbers, int from, int way) {
            int to = from + WIDTH - 1;
            if (way == 0) {
                int rightmost = numbers[to];
                System.arraycopy(numbers, from, numbers, from + 1, WIDTH - 1);
                numbers[from] = rightmost;
            } else {
                int leftmost = numbers[from];
                System.arraycopy(numbers, from + 1, numbers, from, WIDTH - 1);
                numbers[to] = leftmost;
            }
        }

        /** A shake at a square that is not at the rim. */
        void mixAbout(int square) {
            int sum = 0;
            for (int k = 0; k < 9; k++) {
                sum += thick[ninth(square, k)];
            }
            for (int k = 0; k < 9; k++) {
                thick[ninth(square, k)] = sum / 9;
            }
            thick[square] = Math.min(MOST_THICK, sum / 9 + sum % 9);
        }

        private static int ninth(int square, int k) {
            return square + (k / 3 - 1) * WIDTH + k % 3 - 1;
        }
    }

    /** What stands under the cover, and by which law warmth comes down. */
    private static final class Shore {
        final Cover cover = new Cover();
        final int[] places = new int[MOST_HOUSES];
        final int[] needs = new int[MOST_HOUSES];
        final int[] inMonths = new int[MOST_HOUSES];
        int housesBuilt;
        int slip;
        Law inForce = new Law();
        // a text that is at fault must leave the law in force as it is
        Law draft = new Law();

        void enactDraft() {
            Law former = inForce;
            inForce = draft;
            draft = former;
        }

        boolean isHouse(int house) {
            return house >= 0 && house < housesBuilt;
        }

        int addHouse(int place, int itsNeeds, int months) {
            if (housesBuilt >= MOST_HOUSES) {
                return FULL;
            }
            places[housesBuilt] = place;
            needs[housesBuilt] = itsNeeds;
            inMonths[housesBuilt] = months;
            housesBuilt++;
            return housesBuilt - 1;
        }

        boolean hasNumber(int number, int what) {
            if (what < SORT || what > SLIP) {
                return false;
            }
            if (what <= WORN) {
                return isSquare(number);
            }
            return what <= IN_MONTHS ? isHouse(number) : number == 0;
        }

        int numberOf(int number, int what) {
            switch (what) {
                case PLACE: return places[number];
                case NEEDS: return needs[number];
                case IN_MONTHS: return inMonths[number];
                case MONTH: return cover.monthNow;
                case SLIP: return slip;
                default: return cover.numberAt(number, what);
            }
        }

        void setNumber(int number, int what, int v) {
            switch (what) {
                case PLACE: places[number] = v; break;
                case NEEDS: needs[number] = v; break;
                case IN_MONTHS: inMonths[number] = v; break;
                case MONTH: cover.monthNow = v; break;
                case SLIP: slip = v; break;
                default: cover.setNumberAt(number, what, v); break;
            }
        }

        boolean isCold(Cover over, int house) {
            boolean itsMonth = (inMonths[house] >> over.monthNow & 1) == 1;
            return itsMonth && inForce.warmth(over, places[house]) < needs[house];
        }

        int coldBits(Cover over) {
            int bits = 0;
            for (int house = 0; house < housesBuilt; house++) {
                if (isCold(over, house)) {
                    bits |= 1 << house;
                }
            }
            return bits;
        }

        int warmestPlace(Cover over) {
            int best = 0;
            int bestWarmth = -1;
            for (int place = 0; place < SQUARES; place++) {
                int warmth = inForce.warmth(over, place);
                if (warmth > bestWarmth) {
                    best = place;
                    bestWarmth = warmth;
                }
            }
            return best;
        }
    }

    /**
     * A law as it is worked out: its expressions one behind the other, each with what it
     * joins ahead of the sign that joins it. Without parts it is the law of a new cover.
     */
    private static final class Law {
        static final int NUMBER = '0', NAME = 'a', MINUS_AHEAD = '~';

        private final int[] signs = new int[TAPE_LENGTH];
        private final int[] numbers = new int[TAPE_LENGTH];
        private int length;
        private final int[] ends = new int[TAPE_LENGTH];
        private final boolean[] asks = new boolean[TAPE_LENGTH];
        private int parts;
        private final int[] stack = new int[TAPE_LENGTH];
        private final int[] named = new int[6];

        void clear() {
            length = 0;
            parts = 0;
        }

        void addSign(int sign, int number) {
            if (length < TAPE_LENGTH) {
                signs[length] = sign;
                numbers[length] = number;
                length++;
            }
        }

        /** All signs since the part before are one expression; it asks if a ? is behind it. */
        void endPart(boolean itAsks) {
            if (parts < TAPE_LENGTH) {
                ends[parts] = length;
                asks[parts] = itAsks;
                parts++;
            }
        }

        int warmth(Cover over, int square) {
            int value = 0;
            if (parts == 0) {
                value = over.sort[square] * over.thick[square] + over.thickBeside(square) / 4 - over.worn[square];
            } else {
                lookAt(over, square);
            }
            for (int part = 0; part < parts; part++) {
                value = valueOfPart(part);
                if (!asks[part]) {
                    break;
                }
                if (value == 0) {
                    // what stands behind its ? does not count
                    part++;
                }
            }
            return Math.max(0, Math.min(MOST_WARMTH, value));
        }

        private void lookAt(Cover over, int square) {
            named[0] = over.sort[square];
            named[1] = over.thick[square];
            named[2] = over.worn[square];
            named[3] = over.monthNow;
            named[4] = over.thickBeside(square);
            named[5] = square / WIDTH;
        }

        private int valueOfPart(int part) {
            int high = 0;
            for (int k = part == 0 ? 0 : ends[part - 1]; k < ends[part]; k++) {
                int sign = signs[k];
                if (sign == NUMBER || sign == NAME) {
                    if (high < TAPE_LENGTH) {
                        stack[high] = sign == NUMBER ? numbers[k] : named[numbers[k]];
                        high++;
                    }
                } else if (sign == '!' || sign == MINUS_AHEAD) {
                    if (high > 0) {
                        stack[high - 1] = sign != '!' ? -stack[high - 1] : stack[high - 1] == 0 ? 1 : 0;
                    }
                } else if (high > 1) {
                    high--;
                    stack[high - 1] = joined(sign, stack[high - 1], stack[high]);
                }
            }
            return high > 0 ? stack[0] : 0;
        }

        /** Which name a sign is, as lookAt() sets them down; -1: none. */
        static int nameOf(int sign) {
            switch (sign) {
                case 's': return 0;
                case 't': return 1;
                case 'w': return 2;
                case 'm': return 3;
                case 'n': return 4;
                case 'y': return 5;
                default: return -1;
            }
        }

        private static int joined(int sign, int left, int right) {
            switch (sign) {
                case '|': return left != 0 || right != 0 ? 1 : 0;
                case '&': return left != 0 && right != 0 ? 1 : 0;
                case '<': return left < right ? 1 : 0;
                case '=': return left == right ? 1 : 0;
                case '>': return left > right ? 1 : 0;
                case '+': return left + right;
                case '-': return left - right;
                case '*': return left * right;
                case '/': return right == 0 ? 0 : left / right;
                default: return right == 0 ? 0 : left % right;
            }
        }
    }

    /** The bytes of a text to come, and how they are read. */
    private static final class Tape {
        private static final int COMPARING = 2, OPERANDS = 5, MOST_OPEN = 6, MOST_DIGITS = 4, END = -1;

        private final int[] bytes = new int[TAPE_LENGTH];
        int length;
        private int at;
        private Law draft;

        boolean take(int letter) {
            if (length >= TAPE_LENGTH) {
                return false;
            }
            bytes[length] = letter;
            length++;
            return true;
        }

        /** The place of the fault, or -1: then the law is as the text says. */
        int readInto(Law law) {
            draft = law;
            draft.clear();
            at = 0;
            for (int line = 0; line <= length; line++) {
                if (!readLine()) {
                    return at;
                }
                if (at >= length) {
                    return -1;
                }
                if (next() != ';') {
                    return at;
                }
                at++;
            }
            return at;
        }

        private boolean readLine() {
            if (!readJoined(0, 0)) {
                return false;
            }
            boolean asks = next() == '?';
            draft.endPart(asks);
            if (!asks) {
                return true;
            }
            at++;
            if (!readJoined(0, 0)) {
                return false;
            }
            draft.endPart(false);
            return true;
        }

        /**
         * Reads operands of a rank and the signs of that rank between them. Where it answers
         * false, the byte at hand is the first with which no text goes on.
         */
        private boolean readJoined(int rank, int open) {
            if (rank >= OPERANDS) {
                return readOperand(open);
            }
            if (!readJoined(rank + 1, open)) {
                return false;
            }
            int most = rank == COMPARING ? 1 : length;
            for (int k = 0; k < most && rankOf(next()) == rank; k++) {
                int sign = next();
                at++;
                if (!readJoined(rank + 1, open)) {
                    return false;
                }
                draft.addSign(sign, 0);
            }
            return true;
        }

        private boolean readOperand(int open) {
            int sign = next();
            if (isDigit(sign)) {
                readNumber();
                return true;
            }
            if (Law.nameOf(sign) >= 0) {
                at++;
                draft.addSign(Law.NAME, Law.nameOf(sign));
                return true;
            }
            if (sign != '!' && sign != '-' && sign != '(' || open >= MOST_OPEN) {
                return false;
            }
            at++;
            return sign == '(' ? readToClose(open + 1) : readAhead(sign, open + 1);
        }

        private boolean readToClose(int open) {
            if (!readJoined(0, open) || next() != ')') {
                return false;
            }
            at++;
            return true;
        }

        private boolean readAhead(int sign, int open) {
            if (!readOperand(open)) {
                return false;
            }
            draft.addSign(sign == '-' ? Law.MINUS_AHEAD : sign, 0);
            return true;
        }

        private void readNumber() {
            int number = 0;
            for (int k = 0; k < MOST_DIGITS && isDigit(next()); k++) {
                number = number * 10 + next() - '0';
                at++;
            }
            draft.addSign(Law.NUMBER, number);
        }

        private int next() {
            return at >= 0 && at < length ? bytes[at] : END;
        }

        private static boolean isDigit(int sign) {
            return sign >= '0' && sign <= '9';
        }

        /** How tight a sign binds what it joins, 0 the least; -1: it joins nothing. */
        private static int rankOf(int sign) {
            switch (sign) {
                case '|': return 0;
                case '&': return 1;
                case '<': case '=': case '>': return COMPARING;
                case '+': case '-': return 3;
                case '*': case '/': case '%': return 4;
                default: return -1;
            }
        }
    }

    /** What would be: all on a cover of its own, so that nothing changes in deed. */
    private static final class Thought {
        private static final int MOST_PULLS = 3, NONE_STUFFED = -9, NO_PULL = 2;

        private final Shore shore;
        private final Cover ahead = new Cover();
        final int[] chosen = new int[MOST_PULLS];
        int bestAnswer;
        int fewestCold;
        private int ownHouse;
        private int otherHouse;
        private int ownRow;
        private int otherRow;
        int firstDeed;

        Thought(Shore shore) {
            this.shore = shore;
        }

        Cover behind(int n) {
            ahead.takeFrom(shore.cover);
            for (int k = 0; k < n; k++) {
                ahead.passMonth(shore.slip);
            }
            return ahead;
        }

        int firstCold(int house) {
            ahead.takeFrom(shore.cover);
            for (int n = 0; n <= MOST_AHEAD; n++) {
                if (shore.isCold(ahead, house)) {
                    return n;
                }
                ahead.passMonth(shore.slip);
            }
            return NOT;
        }

        int timesCold(int house, int n) {
            ahead.takeFrom(shore.cover);
            int times = 0;
            for (int k = 0; k <= n; k++) {
                if (shore.isCold(ahead, house)) {
                    times++;
                }
                ahead.passMonth(shore.slip);
            }
            return times;
        }

        /** How many pulls, which are chosen then; NOT. */
        int fewestPulls(int house) {
            ahead.takeFrom(shore.cover);
            for (int n = 0; n <= MOST_PULLS; n++) {
                if (warmByPulls(house, 0, n)) {
                    return n;
                }
            }
            return NOT;
        }

        private boolean warmByPulls(int house, int k, int n) {
            if (k >= n || k >= MOST_PULLS) {
                return !shore.isCold(ahead, house);
            }
            boolean warm = false;
            for (int rw = 0; rw < 2 * HEIGHT && !warm; rw++) {
                chosen[k] = rw;
                ahead.moveRow(rw / 2, rw % 2);
                warm = warmByPulls(house, k + 1, n);
                ahead.moveRow(rw / 2, 1 - rw % 2);
            }
            return warm;
        }

        void tryShakes() {
            fewestCold = MOST_HOUSES + 1;
            for (int square = 0; square < SQUARES; square++) {
                if (Cover.isInside(square)) {
                    ahead.takeFrom(shore.cover);
                    ahead.mixAbout(square);
                    weigh(square);
                }
            }
        }

        void tryStuffings(int k) {
            fewestCold = MOST_HOUSES + 1;
            if (k == 0) {
                ahead.takeFrom(shore.cover);
                weigh(NONE_STUFFED);
                return;
            }
            for (int lesser = 0; lesser < SQUARES; lesser++) {
                int from = k == 1 ? lesser : lesser + 1;
                int to = k == 1 ? lesser : SQUARES - 1;
                for (int greater = from; greater <= to; greater++) {
                    ahead.takeFrom(shore.cover);
                    ahead.setSquare(lesser, 2, MOST_THICK, 0);
                    ahead.setSquare(greater, 2, MOST_THICK, 0);
                    weigh(k == 1 ? lesser : SQUARES * lesser + greater);
                }
            }
        }

        /** Answers come from the least on, so a later one must be better, not as good. */
        private void weigh(int answer) {
            int cold = Integer.bitCount(shore.coldBits(ahead));
            if (cold < fewestCold) {
                fewestCold = cold;
                bestAnswer = answer;
            }
        }

        int firstWrong(Shelf felt, int place) {
            ahead.takeFrom(shore.cover);
            return firstUnlike(felt, place);
        }

        private int firstUnlike(Shelf felt, int place) {
            int counting = Math.min(felt.length, MOST_AHEAD + 1);
            for (int n = 0; n < counting; n++) {
                if (shore.inForce.warmth(ahead, place) != felt.elements[n]) {
                    return n;
                }
                ahead.passMonth(shore.slip);
            }
            return NOT;
        }

        /** Bits: with which numbers of the square all that was felt is so. */
        int fitting(Shelf felt, int place, int square, int what) {
            int bits = 0;
            for (int v = 0; v <= MOST[what]; v++) {
                ahead.takeFrom(shore.cover);
                ahead.setNumberAt(square, what, v);
                if (firstUnlike(felt, place) == NOT) {
                    bits |= 1 << v;
                }
            }
            return bits;
        }

        int pullByTurns(int hh, int rr, int n) {
            ahead.takeFrom(shore.cover);
            ownHouse = hh / 10;
            otherHouse = hh % 10;
            ownRow = rr / 10;
            otherRow = rr % 10;
            return bestFrom(0, n);
        }

        /** What the first family has in the end, if both do their best from a turn on. */
        private int bestFrom(int turn, int n) {
            if (turn >= n) {
                int own = shore.inForce.warmth(ahead, shore.places[ownHouse]);
                return own - shore.inForce.warmth(ahead, shore.places[otherHouse]);
            }
            boolean isOwn = turn % 2 == 0;
            int line = isOwn ? ownRow : otherRow;
            int best = bestFrom(turn + 1, n);
            int deed = NO_PULL;
            for (int way = 0; way < 2; way++) {
                ahead.moveRow(line, way);
                int value = bestFrom(turn + 1, n);
                ahead.moveRow(line, 1 - way);
                if (isOwn ? value > best : value < best) {
                    best = value;
                    deed = way;
                }
            }
            if (turn == 0) {
                firstDeed = deed;
            }
            return best;
        }

        /** How often a house is cold, or all houses together are (house -1). */
        int coldByDraws(int seed, int years, int months, int house) {
            int z = seed;
            int times = 0;
            for (int year = 0; year < years; year++) {
                ahead.takeFrom(shore.cover);
                for (int k = 0; k < months; k++) {
                    z = z * 1103515245 + 12345;
                    draw(z);
                    times += house < 0 ? Integer.bitCount(shore.coldBits(ahead)) : shore.isCold(ahead, house) ? 1 : 0;
                    ahead.passMonth(shore.slip);
                }
            }
            return times;
        }

        private void draw(int z) {
            int lot = (z >>> 8) % 3;
            if (lot == 0) {
                ahead.moveRow((z >>> 16) % HEIGHT, 0);
            } else if (lot == 1) {
                int square = (z >>> 16) % SQUARES;
                ahead.thick[square] = Math.max(0, ahead.thick[square] - 1);
            }
        }
    }

    /** Ways by warm places and patches of one sort: both spread from square to square. */
    private static final class Ways {
        final int[] warm = new int[SQUARES];
        private final int[] group = new int[SQUARES];
        private final int[] steps = new int[SQUARES];
        private final int[] reached = new int[SQUARES];
        int warmest;
        int fewestSteps;
        int patchesFound;
        int greatestPatch;

        /** The greatest warmth at which the ends hang together; at 0 all places do. */
        void findWay(int from, int to) {
            for (int level = Math.min(warm[from], warm[to]); level >= 0; level--) {
                forgetSteps();
                for (int place = 0; place < SQUARES; place++) {
                    group[place] = warm[place] >= level ? 1 : 0;
                }
                spread(from);
                if (steps[to] >= 0) {
                    warmest = level;
                    fewestSteps = steps[to];
                    return;
                }
            }
        }

        void findPatches(Cover cover) {
            patchesFound = 0;
            greatestPatch = 0;
            forgetSteps();
            for (int square = 0; square < SQUARES; square++) {
                group[square] = cover.thick[square] > 0 ? cover.sort[square] + 1 : 0;
            }
            for (int square = 0; square < SQUARES; square++) {
                if (group[square] > 0 && steps[square] < 0) {
                    patchesFound++;
                    greatestPatch = Math.max(greatestPatch, spread(square));
                }
            }
        }

        private void forgetSteps() {
            for (int square = 0; square < SQUARES; square++) {
                steps[square] = -1;
            }
        }

        /** Goes out over squares of the same group, nearest first: how many there are. */
        private int spread(int from) {
            int found = 1;
            reached[0] = from;
            steps[from] = 0;
            for (int k = 0; k < found; k++) {
                int square = reached[k];
                for (int way = 0; way < 4; way++) {
                    int next = Cover.beside(square, way);
                    if (next >= 0 && steps[next] < 0 && group[next] == group[from] && found < SQUARES) {
                        steps[next] = steps[square] + 1;
                        reached[found] = next;
                        found++;
                    }
                }
            }
            return found;
        }
    }

    /** Numbers that were told, so that they can be undone and done again. */
    private static final class Changes {
        private static final int MOST_KEPT = 40;

        private final int[] number = new int[MOST_KEPT];
        private final int[] what = new int[MOST_KEPT];
        private final int[] was = new int[MOST_KEPT];
        private final int[] became = new int[MOST_KEPT];
        int done;
        int undone;

        void note(int itsNumber, int itsWhat, int itWas, int itBecame) {
            if (done >= MOST_KEPT) {
                forgetOldest();
            }
            number[done] = itsNumber;
            what[done] = itsWhat;
            was[done] = itWas;
            became[done] = itBecame;
            done++;
            undone = 0;
        }

        private void forgetOldest() {
            System.arraycopy(number, 1, number, 0, MOST_KEPT - 1);
            System.arraycopy(what, 1, what, 0, MOST_KEPT - 1);
            System.arraycopy(was, 1, was, 0, MOST_KEPT - 1);
            System.arraycopy(became, 1, became, 0, MOST_KEPT - 1);
            done = MOST_KEPT - 1;
        }

        void stepBack(Shore shore) {
            if (done > 0) {
                done--;
                undone++;
                shore.setNumber(number[done], what[done], was[done]);
            }
        }

        void stepForth(Shore shore) {
            if (undone > 0 && done < MOST_KEPT) {
                shore.setNumber(number[done], what[done], became[done]);
                done++;
                undone--;
            }
        }
    }

    /** Stitches by number, and the acts that they have of their own kind or from above. */
    private static final class Stitches {
        static final int TRACE_LENGTH = 24;
        private static final int MOST_KEPT = 50, KINDS = 8, ACTS = 4, MOST_DEEP = 40;
        private static final int WARMS = 0, SLIPS = 1, AIRS = 2, TELLS = 3;

        private static final int[] ABOVE = {-1, 0, 0, 2, 1, 3, 0, 4};
        /** By kind and act: the body that the kind itself has; 0: it comes from above. */
        private static final int[] BODIES = {
            1, 10, 11, 2,
            20, 0, 0, 0,
            0, 30, 0, 0,
            0, 41, 40, 0,
            0, 0, 50, 0,
            0, 0, 0, 60,
            70, 0, 0, 0,
            0, 80, 0, 81,
        };

        final int[] kinds = new int[MOST_KEPT];
        int kept;
        final int[] traced = new int[TRACE_LENGTH];
        int ran;

        static boolean isKind(int kind) {
            return kind >= 0 && kind < KINDS;
        }

        boolean isStitch(int number) {
            return number >= 0 && number < kept;
        }

        int add(int kind) {
            if (kept >= MOST_KEPT) {
                return FULL;
            }
            kinds[kept] = kind;
            kept++;
            return kept - 1;
        }

        boolean isOfKind(int number, int kind) {
            if (!isStitch(number)) {
                return false;
            }
            int at = kinds[number];
            for (int k = 0; k < KINDS && at >= 0 && at != kind; k++) {
                at = ABOVE[at];
            }
            return at == kind;
        }

        int begin(int number, int act, int x) {
            ran = 0;
            if (!isStitch(number) || act < WARMS || act > TELLS) {
                return 0;
            }
            return run(number, kinds[number], act, x, 0);
        }

        /** Runs the body that a kind has for an act, or the next kind above it. */
        private int run(int number, int kind, int act, int x, int deep) {
            int bearer = kind;
            for (int k = 0; k < KINDS && bearer >= 0 && BODIES[bearer * ACTS + act] == 0; k++) {
                bearer = ABOVE[bearer];
            }
            if (bearer < 0 || deep > MOST_DEEP) {
                return 0;
            }
            int body = BODIES[bearer * ACTS + act];
            if (ran < TRACE_LENGTH) {
                traced[ran] = body;
            }
            ran++;
            return worked(body, number, ABOVE[bearer], x, deep + 1);
        }

        private int worked(int body, int number, int above, int x, int deep) {
            int own = kinds[number];
            switch (body) {
                case 1: return x + number;
                case 2: return run(number, own, SLIPS, x, deep) - run(number, own, AIRS, 1, deep);
                case 10: return run(number, own, WARMS, x, deep) * 2;
                case 11: return x ^ number;
                case 20: return run(number, above, WARMS, x, deep) + 3;
                case 30: return -run(number, above, SLIPS, x, deep);
                case 40: return run(number, above, AIRS, x, deep) * 3;
                case 41: return run(number, above, SLIPS, x + 1, deep);
                case 50: return run(number, above, AIRS, x, deep) - run(number, own, WARMS, 2, deep);
                case 60: return run(number, above, TELLS, x, deep) ^ 5;
                case 70: return run(number, above, WARMS, x, deep) * 2;
                case 80: return run(number, above, SLIPS, x, deep) + run(number, own, AIRS, 2, deep);
                case 81: return run(number, above, TELLS, x, deep) - 1;
                default: return 0;
            }
        }
    }

    /** Nothing, a stitch, or a row whose elements are kept as longs of the row's own bits. */
    private static final class Shelf {
        static final int NOTHING = -2, STITCH = -1, BYTES = 0, SHORTS = 1, INTS = 2, LONGS = 3, BOOLEANS = 4;

        final long[] elements = new long[ROW_LENGTH];
        int holds = NOTHING;
        int length;
        int stitch;

        /** Number -1: nothing is held. */
        void holdStitch(int number) {
            holds = number < 0 ? NOTHING : STITCH;
            stitch = number;
            length = 0;
        }

        void holdRow(int sort, int n) {
            holds = sort;
            length = n;
            for (int i = 0; i < n && i < ROW_LENGTH; i++) {
                elements[i] = 0;
            }
        }

        boolean isRow() {
            return holds >= BYTES;
        }

        boolean hasPlaces(int i, int n) {
            return i >= 0 && n >= 0 && n <= length && i <= length - n;
        }

        static long lowestBits(int sort, long v) {
            switch (sort) {
                case BYTES: return (byte) v;
                case SHORTS: return (short) v;
                case INTS: return (int) v;
                case LONGS: return v;
                default: return v != 0 ? 1 : 0;
            }
        }
    }
}
