import java.lang.reflect.Array;
import java.util.ArrayDeque;
import java.util.ArrayList;
import java.util.Arrays;
import java.util.List;
import java.util.function.IntSupplier;

/**
 * The document told a second time, by other means than the class: real arrays with what the host
 * throws, real kinds with super, texts worked out as they are read, states copied at each step.
 */
final class Model {
    record Square(int sort, int thick, int worn) { }

    record Change(int number, int what, int was, int became) { }

    /** All that passes with the months; never changed, always made anew. */
    record Sky(Square[][] squares, int month, int passed) {
        Square at(int place) {
            return squares[place / 6][place % 6];
        }

        Sky with(int place, Square square) {
            Square[][] copy = copy();
            copy[place / 6][place % 6] = square;
            return new Sky(copy, month, passed);
        }

        Square[][] copy() {
            Square[][] copy = new Square[5][];
            for (int y = 0; y < 5; y++) {
                copy[y] = squares[y].clone();
            }
            return copy;
        }

        Sky passed(int slip) {
            Square[][] next = new Square[5][6];
            boolean slips = slip > 0 && (passed + 1) % slip == 0;
            for (int y = 0; y < 5; y++) {
                for (int x = 0; x < 6; x++) {
                    Square s = squares[y][x];
                    if (s.thick > 0) {
                        int worn = Math.min(12, s.worn + 1);
                        s = worn == 12 ? new Square(s.sort, s.thick - 1, 0) : new Square(s.sort, s.thick, worn);
                    }
                    next[slips ? (y + 1) % 5 : y][x] = s;
                }
            }
            return new Sky(next, (month + 1) % 12, passed + 1);
        }

        Sky pulled(int rw) {
            Square[][] next = copy();
            for (int x = 0; x < 6; x++) {
                next[rw / 2][Math.floorMod(rw % 2 == 0 ? x + 1 : x - 1, 6)] = squares[rw / 2][x];
            }
            return new Sky(next, month, passed);
        }

        Sky shaken(int place) {
            int sum = 0;
            for (int y = -1; y <= 1; y++) {
                for (int x = -1; x <= 1; x++) {
                    sum += squares[place / 6 + y][place % 6 + x].thick;
                }
            }
            Square[][] next = copy();
            for (int y = place / 6 - 1; y <= place / 6 + 1; y++) {
                for (int x = place % 6 - 1; x <= place % 6 + 1; x++) {
                    Square s = next[y][x];
                    int thick = sum / 9 + (y * 6 + x == place ? sum % 9 : 0);
                    next[y][x] = new Square(s.sort, Math.min(9, thick), s.worn);
                }
            }
            return new Sky(next, month, passed);
        }

        int thickAround(int place) {
            int sum = 0;
            for (int other = 0; other < 30; other++) {
                if (Math.abs(other / 6 - place / 6) + Math.abs(other % 6 - place % 6) == 1) {
                    sum += at(other).thick;
                }
            }
            return sum;
        }
    }

    interface Warms {
        int number();

        List<Integer> ran();

        default int warms(int x) {
            ran().add(1);
            return x + number();
        }
    }

    interface Tells extends Warms {
        int slips(int x);

        int airs(int x);

        default int tells(int x) {
            ran().add(2);
            return slips(x) - airs(1);
        }
    }

    static class Stitch implements Tells {
        private final int number;
        final List<Integer> ran;

        Stitch(int number, List<Integer> ran) {
            this.number = number;
            this.ran = ran;
        }

        public int number() {
            return number;
        }

        public List<Integer> ran() {
            return ran;
        }

        public int slips(int x) {
            ran.add(10);
            return warms(x) * 2;
        }

        public int airs(int x) {
            ran.add(11);
            return x ^ number;
        }
    }

    static class Down extends Stitch {
        Down(int number, List<Integer> ran) {
            super(number, ran);
        }

        @Override public int warms(int x) {
            ran.add(20);
            return super.warms(x) + 3;
        }
    }

    static class Silk extends Stitch {
        Silk(int number, List<Integer> ran) {
            super(number, ran);
        }

        @Override public int slips(int x) {
            ran.add(30);
            return -super.slips(x);
        }
    }

    static class Bride extends Silk {
        Bride(int number, List<Integer> ran) {
            super(number, ran);
        }

        @Override public int airs(int x) {
            ran.add(40);
            return super.airs(x) * 3;
        }

        @Override public int slips(int x) {
            ran.add(41);
            return super.slips(x + 1);
        }
    }

    static class Duck extends Down {
        Duck(int number, List<Integer> ran) {
            super(number, ran);
        }

        @Override public int airs(int x) {
            ran.add(50);
            return super.airs(x) - warms(2);
        }
    }

    static class Moth extends Bride {
        Moth(int number, List<Integer> ran) {
            super(number, ran);
        }

        @Override public int tells(int x) {
            ran.add(60);
            return super.tells(x) ^ 5;
        }
    }

    static class Gale extends Stitch {
        Gale(int number, List<Integer> ran) {
            super(number, ran);
        }

        @Override public int warms(int x) {
            ran.add(70);
            return super.warms(x) * 2;
        }
    }

    static class Chapel extends Duck {
        Chapel(int number, List<Integer> ran) {
            super(number, ran);
        }

        @Override public int slips(int x) {
            ran.add(80);
            return super.slips(x) + airs(2);
        }

        @Override public int tells(int x) {
            ran.add(81);
            return super.tells(x) - 1;
        }
    }

    private static final List<Class<?>> KINDS = List.of(Stitch.class, Down.class, Silk.class, Bride.class,
        Duck.class, Moth.class, Gale.class, Chapel.class);

    private Sky sky;
    private int slip;
    private final List<int[]> houses = new ArrayList<>();
    private String tape = "";
    private String text;
    private final int[] led = new int[5];
    private Sky imageSky;
    private int[] imageLed;
    private final List<Change> done = new ArrayList<>();
    private final List<Change> undone = new ArrayList<>();
    private final List<Stitch> stitches = new ArrayList<>();
    private final List<Integer> ran = new ArrayList<>();
    private final Object[] shelves = new Object[6];

    Model() {
        Square[][] squares = new Square[5][6];
        for (Square[] line : squares) {
            Arrays.fill(line, new Square(0, 0, 0));
        }
        sky = new Sky(squares, 0, 0);
    }

    private static boolean in(int v, int least, int most) {
        return least <= v && v <= most;
    }

    // ---- the law

    /** The text's fault, or -1, by what may stand behind what, byte by byte. */
    static int fault(String text) {
        boolean wantsOperand = true;
        boolean asked = false;
        int digits = 0;
        int ahead = 0;
        // each open ( : how many stood open with it, and whether its part was compared already
        ArrayDeque<Integer> open = new ArrayDeque<>();
        ArrayDeque<Boolean> compared = new ArrayDeque<>();
        compared.push(false);
        for (int i = 0; i < text.length(); i++) {
            char c = text.charAt(i);
            int stand = ahead;
            for (int o : open) {
                stand += o;
            }
            if (wantsOperand) {
                if (Character.digit(c, 10) >= 0 && c < 128) {
                    wantsOperand = false;
                    digits = 1;
                    ahead = 0;
                } else if ("stwmny".indexOf(c) >= 0) {
                    wantsOperand = false;
                    digits = 4;
                    ahead = 0;
                } else if ((c == '!' || c == '-') && stand < 6) {
                    ahead++;
                } else if (c == '(' && stand < 6) {
                    open.push(ahead + 1);
                    compared.push(false);
                    ahead = 0;
                } else {
                    return i;
                }
                continue;
            }
            if (c >= '0' && c <= '9') {
                if (digits >= 4) {
                    return i;
                }
                digits++;
                continue;
            }
            digits = 4;
            wantsOperand = true;
            if (c == '<' || c == '=' || c == '>') {
                if (compared.pop()) {
                    return i;
                }
                compared.push(true);
            } else if (c == '|' || c == '&') {
                compared.pop();
                compared.push(false);
            } else if (c == ')') {
                if (open.isEmpty()) {
                    return i;
                }
                open.pop();
                compared.pop();
                wantsOperand = false;
            } else if (c == ';' || c == '?') {
                if (!open.isEmpty() || c == '?' && asked) {
                    return i;
                }
                asked = c == '?';
                compared.pop();
                compared.push(false);
            } else if ("+-*/%".indexOf(c) < 0) {
                return i;
            }
        }
        return wantsOperand || !open.isEmpty() ? text.length() : -1;
    }

    /** Works out a text without faults while it is read, one binding after the other. */
    private static final class Reader {
        private final String text;
        private final int[] names;
        private int at;

        Reader(String text, int[] names) {
            this.text = text;
            this.names = names;
        }

        private char peek() {
            return at < text.length() ? text.charAt(at) : ' ';
        }

        private boolean eat(char c) {
            if (peek() != c) {
                return false;
            }
            at++;
            return true;
        }

        int either() {
            int v = both();
            while (eat('|')) {
                int w = both();
                v = v != 0 | w != 0 ? 1 : 0;
            }
            return v;
        }

        private int both() {
            int v = compared();
            while (eat('&')) {
                int w = compared();
                v = v != 0 & w != 0 ? 1 : 0;
            }
            return v;
        }

        private int compared() {
            int v = sum();
            if (eat('<')) {
                return v < sum() ? 1 : 0;
            }
            if (eat('=')) {
                return v == sum() ? 1 : 0;
            }
            if (eat('>')) {
                return v > sum() ? 1 : 0;
            }
            return v;
        }

        private int sum() {
            int v = product();
            while (true) {
                if (eat('+')) {
                    v += product();
                } else if (eat('-')) {
                    v -= product();
                } else {
                    return v;
                }
            }
        }

        private int product() {
            int v = one();
            while (true) {
                if (eat('*')) {
                    v *= one();
                } else if (eat('/')) {
                    int w = one();
                    v = w == 0 ? 0 : (int) ((long) v / w);
                } else if (eat('%')) {
                    int w = one();
                    v = w == 0 ? 0 : (int) ((long) v % w);
                } else {
                    return v;
                }
            }
        }

        private int one() {
            if (eat('!')) {
                return one() == 0 ? 1 : 0;
            }
            if (eat('-')) {
                return -one();
            }
            if (eat('(')) {
                int v = either();
                eat(')');
                return v;
            }
            int name = "stwmny".indexOf(peek());
            if (name >= 0) {
                at++;
                return names[name];
            }
            int from = at;
            while (Character.isDigit(peek())) {
                at++;
            }
            return Integer.parseInt(text.substring(from, at));
        }
    }

    private int warmth(Sky s, int place) {
        Square q = s.at(place);
        int v = 0;
        if (text == null) {
            v = q.sort * q.thick + s.thickAround(place) / 4 - q.worn;
        } else {
            int[] names = {q.sort, q.thick, q.worn, s.month, s.thickAround(place), place / 6};
            for (String line : text.split(";")) {
                String[] parts = line.split("\\?");
                if (parts.length == 1 || new Reader(parts[0], names).either() != 0) {
                    v = new Reader(parts[parts.length - 1], names).either();
                    break;
                }
            }
        }
        return Math.max(0, Math.min(99, v));
    }

    private boolean isCold(Sky s, int house) {
        int[] h = houses.get(house);
        return (h[2] & 1 << s.month) != 0 && warmth(s, h[0]) < h[1];
    }

    private int coldBits(Sky s) {
        int bits = 0;
        for (int h = 0; h < houses.size(); h++) {
            bits += isCold(s, h) ? 1 << h : 0;
        }
        return bits;
    }

    private Sky behind(Sky s, int n) {
        return n == 0 ? s : behind(s.passed(slip), n - 1);
    }

    // ---- the calls

    int house(int place, int needs) {
        if (!in(place, 0, 29) || !in(needs, 0, 99)) {
            return -1;
        }
        if (houses.size() == 8) {
            return -3;
        }
        houses.add(new int[] {place, needs, 4095});
        return houses.size() - 1;
    }

    int houses(int shelf, int i, int n) {
        if (!in(shelf, 0, 5) || !in(n, 1, 8)) {
            return -1;
        }
        if (shelves[shelf] != null && !(shelves[shelf] instanceof short[])) {
            return -12;
        }
        short[] row = (short[]) shelves[shelf];
        int came = 0;
        try {
            for (long at = i; came < n; at += 3) {
                int to = (int) Math.min(at, 1000);
                int months = row[to + 2];
                if (!in(months, 0, 4095) || house(row[to], row[to + 1]) < 0) {
                    break;
                }
                houses.get(houses.size() - 1)[2] = months;
                came++;
            }
        } catch (NullPointerException | ArrayIndexOutOfBoundsException end) {
            return came;
        }
        return came;
    }

    int mend(int number, int what, int v) {
        int[] most = {4, 9, 12, 29, 99, 4095, 11, 12};
        int was = of(number, what);
        if (was < 0 || !in(v, 0, most[what])) {
            return -1;
        }
        if (was != v) {
            set(number, what, v);
            undone.clear();
            done.add(new Change(number, what, was, v));
            if (done.size() > 40) {
                done.remove(0);
            }
        }
        return was;
    }

    private void set(int number, int what, int v) {
        if (what < 3) {
            Square s = sky.at(number);
            sky = sky.with(number, changed(s, what, v));
        } else if (what < 6) {
            houses.get(number)[what - 3] = v;
        } else if (what == 6) {
            sky = new Sky(sky.squares, v, sky.passed);
        } else {
            slip = v;
        }
    }

    private static Square changed(Square s, int what, int v) {
        return new Square(what == 0 ? v : s.sort, what == 1 ? v : s.thick, what == 2 ? v : s.worn);
    }

    int of(int number, int what) {
        if (in(what, 0, 2) && in(number, 0, 29)) {
            Square s = sky.at(number);
            return new int[] {s.sort, s.thick, s.worn}[what];
        }
        if (in(what, 3, 5) && in(number, 0, houses.size() - 1)) {
            return houses.get(number)[what - 3];
        }
        return number == 0 && what == 6 ? sky.month : number == 0 && what == 7 ? slip : -1;
    }

    int feed(int letter) {
        if (!in(letter, 0, 255)) {
            return -1;
        }
        if (tape.length() == 120) {
            return -3;
        }
        tape += (char) letter;
        return tape.length();
    }

    int law() {
        int fault = fault(tape);
        if (fault < 0) {
            text = tape;
        }
        tape = "";
        return fault < 0 ? 1 : -100 - fault;
    }

    int later(int n, int place, int what) {
        if (!in(n, 0, 48) || !in(place, 0, 29) || !in(what, 0, 3)) {
            return -1;
        }
        Sky s = behind(sky, n);
        return new int[] {warmth(s, place), s.at(place).sort, s.at(place).thick, s.at(place).worn}[what];
    }

    int cold(int n, int what) {
        if (!in(n, 0, 48) || !in(what, 0, 1)) {
            return -1;
        }
        Sky s = behind(sky, n);
        if (what == 0) {
            return coldBits(s);
        }
        int best = 29;
        for (int place = 29; place >= 0; place--) {
            best = warmth(s, place) >= warmth(s, best) ? place : best;
        }
        return best;
    }

    int first(int house) {
        if (!in(house, 0, houses.size() - 1)) {
            return -1;
        }
        for (int n = 0; n <= 48; n++) {
            if (isCold(behind(sky, n), house)) {
                return n;
            }
        }
        return -2;
    }

    int often(int house, int n) {
        if (!in(house, 0, houses.size() - 1) || !in(n, 0, 48)) {
            return -1;
        }
        int times = 0;
        for (int k = 0; k <= n; k++) {
            times += isCold(behind(sky, k), house) ? 1 : 0;
        }
        return times;
    }

    int pulls(int house, int k) {
        if (!in(house, 0, houses.size() - 1) || k < -1) {
            return -1;
        }
        List<List<Integer>> ways = new ArrayList<>(List.of(List.of()));
        for (int n = 0; n <= 3; n++) {
            for (List<Integer> way : ways) {
                Sky s = sky;
                for (int rw : way) {
                    s = s.pulled(rw);
                }
                if (!isCold(s, house)) {
                    return k == -1 ? n : k < n ? way.get(k) : -2;
                }
            }
            List<List<Integer>> longer = new ArrayList<>();
            for (List<Integer> way : ways) {
                for (int rw = 0; rw < 10; rw++) {
                    List<Integer> more = new ArrayList<>(way);
                    more.add(rw);
                    longer.add(more);
                }
            }
            ways = longer;
        }
        return -2;
    }

    int shakes(int what) {
        if (!in(what, 0, 1)) {
            return -1;
        }
        int best = 999;
        int which = -1;
        for (int y = 1; y <= 3; y++) {
            for (int x = 1; x <= 4; x++) {
                int cold = Integer.bitCount(coldBits(sky.shaken(6 * y + x)));
                if (cold < best) {
                    best = cold;
                    which = 6 * y + x;
                }
            }
        }
        return what == 0 ? which : best;
    }

    int stuffs(int k, int what) {
        if (!in(k, 0, 2) || !in(what, 0, 1)) {
            return -1;
        }
        Square down = new Square(2, 9, 0);
        int best = 999;
        int which = -9;
        for (int code = 0; code < (k == 0 ? 1 : k == 1 ? 30 : 900); code++) {
            if (k == 2 && code / 30 >= code % 30) {
                continue;
            }
            Sky s = k == 0 ? sky : sky.with(code % 30, down);
            s = k == 2 ? s.with(code / 30, down) : s;
            int cold = Integer.bitCount(coldBits(s));
            if (cold < best) {
                best = cold;
                which = k == 0 ? -9 : code;
            }
        }
        return what == 0 ? best : which;
    }

    private int badBytes(int sp) {
        if (sp < 0 || sp / 100 > 5 || sp % 100 > 29) {
            return -1;
        }
        Object held = shelves[sp / 100];
        return held == null ? -11 : held instanceof byte[] ? 0 : -12;
    }

    private int judged(Sky s, byte[] row, int place) {
        for (int i = 0; i < Math.min(49, row.length); i++) {
            if (warmth(s, place) != row[i]) {
                return i;
            }
            s = s.passed(slip);
        }
        return -2;
    }

    int judge(int sp) {
        int bad = badBytes(sp);
        return bad < 0 ? bad : judged(sky, (byte[]) shelves[sp / 100], sp % 100);
    }

    int felt(int sp, int square, int what) {
        if (!in(square, 0, 29) || !in(what, 0, 4) || badBytes(sp) == -1) {
            return -1;
        }
        if (badBytes(sp) < 0) {
            return badBytes(sp);
        }
        int which = new int[] {0, 1, 1, 2, 2}[what];
        List<Integer> fit = new ArrayList<>();
        for (int v = 0; v <= new int[] {4, 9, 12}[which]; v++) {
            Sky s = sky.with(square, changed(sky.at(square), which, v));
            if (judged(s, (byte[]) shelves[sp / 100], sp % 100) == -2) {
                fit.add(v);
            }
        }
        if (what == 0) {
            return fit.stream().mapToInt(v -> 1 << v).sum();
        }
        return what % 2 == 1 ? fit.size() : fit.isEmpty() ? -2 : fit.get(0);
    }

    int walk(int ft, int what) {
        if (ft < 0 || ft / 100 > 29 || ft % 100 > 29 || !in(what, 0, 1)) {
            return -1;
        }
        // the best that each way's coldest place can be, bettered till nothing changes
        int[] warm = new int[30];
        int[] best = new int[30];
        Arrays.fill(best, -1);
        for (int p = 0; p < 30; p++) {
            warm[p] = warmth(sky, p);
        }
        best[ft / 100] = warm[ft / 100];
        relax(() -> {
            int changes = 0;
            for (int p = 0; p < 30; p++) {
                for (int q = 0; q < 30; q++) {
                    if (besides(p, q) && Math.min(best[p], warm[q]) > best[q]) {
                        best[q] = Math.min(best[p], warm[q]);
                        changes++;
                    }
                }
            }
            return changes;
        });
        int level = best[ft % 100];
        int[] steps = new int[30];
        Arrays.fill(steps, 1000);
        steps[ft / 100] = 0;
        relax(() -> {
            int changes = 0;
            for (int p = 0; p < 30; p++) {
                for (int q = 0; q < 30; q++) {
                    if (besides(p, q) && warm[q] >= level && steps[p] + 1 < steps[q]) {
                        steps[q] = steps[p] + 1;
                        changes++;
                    }
                }
            }
            return changes;
        });
        return what == 0 ? level : steps[ft % 100];
    }

    private static void relax(IntSupplier round) {
        while (round.getAsInt() > 0) {
            continue;
        }
    }

    private static boolean besides(int p, int q) {
        return Math.abs(p / 6 - q / 6) + Math.abs(p % 6 - q % 6) == 1;
    }

    int patches(int what) {
        if (!in(what, 0, 1)) {
            return -1;
        }
        int[] name = new int[30];
        for (int p = 0; p < 30; p++) {
            name[p] = sky.at(p).thick > 0 ? p : -1;
        }
        relax(() -> {
            int changes = 0;
            for (int p = 0; p < 30; p++) {
                for (int q = 0; q < 30; q++) {
                    boolean same = name[p] >= 0 && name[q] >= 0 && sky.at(p).sort == sky.at(q).sort;
                    if (same && besides(p, q) && name[p] < name[q]) {
                        name[q] = name[p];
                        changes++;
                    }
                }
            }
            return changes;
        });
        int[] sizes = new int[30];
        for (int n : name) {
            if (n >= 0) {
                sizes[n]++;
            }
        }
        return what == 0 ? (int) Arrays.stream(sizes).filter(n -> n > 0).count() : Arrays.stream(sizes).max().getAsInt();
    }

    int byTurns(int hh, int rr, int n, int what) {
        boolean housesSo = hh >= 0 && hh / 10 < houses.size() && hh % 10 < houses.size() && hh / 10 != hh % 10;
        boolean rowsSo = rr >= 0 && rr / 10 < 5 && rr % 10 < 5 && rr / 10 != rr % 10;
        if (!housesSo || !rowsSo || !in(n, 1, 4) || !in(what, 0, 1)) {
            return -2000000000;
        }
        int[] own = {hh / 10, hh % 10};
        int[] rows = {rr / 10, rr % 10};
        int[] after = new int[3];
        for (int deed = 0; deed < 3; deed++) {
            after[deed] = -forMover(deed == 2 ? sky : sky.pulled(2 * rows[0] + deed), 1, n, own, rows);
        }
        int best = Math.max(after[0], Math.max(after[1], after[2]));
        return what == 0 ? best : after[2] == best ? 2 : after[0] == best ? 0 : 1;
    }

    /** What is best for the one whose turn it is. */
    private int forMover(Sky s, int turn, int n, int[] own, int[] rows) {
        int me = turn % 2;
        if (turn == n) {
            return warmth(s, houses.get(own[me])[0]) - warmth(s, houses.get(own[1 - me])[0]);
        }
        int best = -forMover(s, turn + 1, n, own, rows);
        best = Math.max(best, -forMover(s.pulled(2 * rows[me]), turn + 1, n, own, rows));
        return Math.max(best, -forMover(s.pulled(2 * rows[me] + 1), turn + 1, n, own, rows));
    }

    int drawn(int seed, int nm, int house) {
        if (nm < 0 || !in(nm / 100, 1, 30) || !in(nm % 100, 1, 24) || !in(house, -1, houses.size() - 1)) {
            return -1;
        }
        int z = seed;
        int times = 0;
        for (int year = 1; year <= nm / 100; year++) {
            Sky s = sky;
            for (int m = 1; m <= nm % 100; m++) {
                z = (int) (z * 1103515245L + 12345L);
                int lot = (int) ((z & 0xffffffffL) / 256 % 3);
                int high = (int) ((z & 0xffffffffL) / 65536);
                if (lot == 0) {
                    s = s.pulled(high % 5 * 2);
                } else if (lot == 1) {
                    Square q = s.at(high % 30);
                    s = s.with(high % 30, new Square(q.sort, Math.max(0, q.thick - 1), q.worn));
                }
                int bits = coldBits(s);
                times += Integer.bitCount(house < 0 ? bits : bits & 1 << house);
                s = s.passed(slip);
            }
        }
        return times;
    }

    int month() {
        int cold = Integer.bitCount(coldBits(sky));
        sky = sky.passed(slip);
        led[0]++;
        led[4] += cold;
        return cold;
    }

    int pull(int rw) {
        if (!in(rw, 0, 9)) {
            return -1;
        }
        sky = sky.pulled(rw);
        led[1]++;
        return sky.squares[rw / 2][0].sort;
    }

    int shake(int square) {
        if (!in(square, 0, 29) || !in(square / 6, 1, 3) || !in(square % 6, 1, 4)) {
            return -1;
        }
        sky = sky.shaken(square);
        led[2]++;
        return sky.at(square).thick;
    }

    int stuff(int square, int st) {
        if (!in(square, 0, 29) || !in(st, 11, 49) || st % 10 == 0) {
            return -1;
        }
        int was = sky.at(square).sort;
        sky = sky.with(square, new Square(st / 10, st % 10, 0));
        led[3]++;
        return was;
    }

    int led(int what) {
        return in(what, 0, 4) ? led[what] : -1;
    }

    int image() {
        imageSky = sky;
        imageLed = led.clone();
        return led[0];
    }

    int back() {
        if (imageSky == null) {
            return -5;
        }
        sky = imageSky;
        System.arraycopy(imageLed, 0, led, 0, 5);
        return led[0];
    }

    int undo() {
        if (done.isEmpty()) {
            return -5;
        }
        Change c = done.remove(done.size() - 1);
        undone.add(c);
        set(c.number, c.what, c.was);
        return done.size();
    }

    int redo() {
        if (undone.isEmpty()) {
            return -5;
        }
        Change c = undone.remove(undone.size() - 1);
        done.add(c);
        set(c.number, c.what, c.became);
        return undone.size();
    }

    int body(int kind) {
        if (!in(kind, 0, 7)) {
            return -1;
        }
        int n = stitches.size();
        if (n == 50) {
            return -3;
        }
        stitches.add(switch (kind) {
            case 0 -> new Stitch(n, ran);
            case 1 -> new Down(n, ran);
            case 2 -> new Silk(n, ran);
            case 3 -> new Bride(n, ran);
            case 4 -> new Duck(n, ran);
            case 5 -> new Moth(n, ran);
            case 6 -> new Gale(n, ran);
            default -> new Chapel(n, ran);
        });
        return n;
    }

    int act(int body, int act, int x) {
        ran.clear();
        if (!in(body, 0, stitches.size() - 1) || !in(act, 0, 3)) {
            return 0;
        }
        Stitch s = stitches.get(body);
        return switch (act) {
            case 0 -> s.warms(x);
            case 1 -> s.slips(x);
            case 2 -> s.airs(x);
            default -> s.tells(x);
        };
    }

    int trace(int i) {
        return in(i, 0, Math.min(24, ran.size()) - 1) ? ran.get(i) : -1;
    }

    int keep(int shelf, int body) {
        if (!in(shelf, 0, 5) || !in(body, -1, stitches.size() - 1)) {
            return -1;
        }
        shelves[shelf] = body < 0 ? null : stitches.get(body);
        return 1;
    }

    int row(int shelf, int sort, int n) {
        if (!in(shelf, 0, 5) || !in(sort, 0, 4) || n > 60) {
            return -1;
        }
        try {
            Class<?>[] sorts = {byte.class, short.class, int.class, long.class, boolean.class};
            shelves[shelf] = Array.newInstance(sorts[sort], n);
            return 1;
        } catch (NegativeArraySizeException below) {
            return -14;
        }
    }

    int put(int shelf, int i, long v) {
        if (!in(shelf, 0, 5)) {
            return -1;
        }
        Object row = shelves[shelf];
        try {
            if (row instanceof byte[] b) {
                b[i] = (byte) v;
            } else if (row instanceof short[] s) {
                s[i] = (short) v;
            } else if (row instanceof int[] n) {
                n[i] = (int) v;
            } else if (row instanceof long[] n) {
                n[i] = v;
            } else if (row instanceof boolean[] b) {
                b[i] = v != 0;
            } else {
                return row == null ? -11 : -12;
            }
            return 1;
        } catch (ArrayIndexOutOfBoundsException none) {
            return -13;
        }
    }

    long element(int shelf, int i) {
        if (!in(shelf, 0, 5) || shelves[shelf] == null || shelves[shelf] instanceof Stitch) {
            return Long.MIN_VALUE;
        }
        if (!in(i, 0, Array.getLength(shelves[shelf]) - 1)) {
            return Long.MIN_VALUE;
        }
        Object v = Array.get(shelves[shelf], i);
        return v instanceof Boolean b ? (b ? 1 : 0) : ((Number) v).longValue();
    }

    int shift(int shelf, int i, int other, int j, int n) {
        if (!in(shelf, 0, 5) || !in(other, 0, 5)) {
            return -1;
        }
        try {
            System.arraycopy(shelves[shelf], i, shelves[other], j, n);
            return n;
        } catch (NullPointerException nothing) {
            return -11;
        } catch (ArrayStoreException unlike) {
            return -12;
        } catch (IndexOutOfBoundsException none) {
            return -13;
        }
    }

    int taken(int shelf, int k) {
        if (!in(shelf, 0, 5) || !in(k, 0, 7)) {
            return -1;
        }
        if (shelves[shelf] == null) {
            return -11;
        }
        try {
            return KINDS.indexOf(KINDS.get(k).cast(shelves[shelf]).getClass());
        } catch (ClassCastException other) {
            return -12;
        }
    }

    int count(int what) {
        int stuffed = 0;
        for (int p = 0; p < 30; p++) {
            stuffed += sky.at(p).thick > 0 ? 1 : 0;
        }
        int[] counts = {houses.size(), stuffed, tape.length(), done.size(), stitches.size(), ran.size()};
        return in(what, 0, 5) ? counts[what] : -1;
    }
}
