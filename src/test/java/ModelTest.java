import java.util.Random;

/** Runs of calls by draws, on the class and on the model: each answer must be the same. */
public final class ModelTest {
    private static final int RUNS = 400;
    /** An object is for 512 calls; the most that one draw makes is a row of 54 that is felt. */
    private static final int CALLS = 512 - 64;
    private static final int[] ODD = {-1, -2, Integer.MIN_VALUE, Integer.MAX_VALUE, 30, 8, 49, 61, 100, 4096, 12, 13};
    private static final Due DUE = new Due("ModelTest");

    private final Random draws;
    private final int run;
    private final EiderClimate x = new EiderClimate();
    private final Model m = new Model();
    private String pending = "";

    private ModelTest(int run) {
        this.run = run;
        draws = new Random(run * 7919L + 17);
    }

    public static void main(String[] args) {
        int runs = args.length > 0 ? Integer.parseInt(args[0]) : RUNS;
        for (int run = 0; run < runs && !DUE.anyWrong(); run++) {
            new ModelTest(run).calls();
        }
        faultsOfTexts(runs * 50);
        DUE.end();
    }

    /** Below n, but for some that no call takes. */
    private int to(int n) {
        return draws.nextInt(24) == 0 ? ODD[draws.nextInt(ODD.length)] : draws.nextInt(n);
    }

    private int some(int least, int most) {
        return draws.nextInt(24) == 0 ? ODD[draws.nextInt(ODD.length)] : least + draws.nextInt(most - least + 1);
    }

    private void calls() {
        // some runs begin with a whole cover, some with houses, for else most warmth is 0
        int filled = run % 3 == 0 ? 0 : run % 3 == 1 ? 12 : 30;
        int before = DUE.seen();
        for (int i = 0; i < filled; i++) {
            int square = draws.nextInt(30);
            mend(square, 0, draws.nextInt(5));
            mend(square, 1, draws.nextInt(10));
            mend(square, 2, draws.nextInt(13));
        }
        for (int i = 0; i < run % 5; i++) {
            int place = draws.nextInt(30);
            int needs = draws.nextInt(30);
            DUE.is("house", x.house(place, needs), m.house(place, needs));
        }
        while (DUE.seen() - before < CALLS && !DUE.anyWrong()) {
            one();
            if (DUE.anyWrong()) {
                System.out.println("run " + run + ", call " + (DUE.seen() - before));
            }
        }
    }

    private void mend(int number, int what, int v) {
        DUE.is("mend(" + number + ", " + what + ", " + v + ")", x.mend(number, what, v), m.mend(number, what, v));
    }

    private void one() {
        if (!pending.isEmpty()) {
            int letter = pending.charAt(0);
            pending = pending.substring(1);
            DUE.is("feed", x.feed(letter), m.feed(letter));
            if (pending.isEmpty()) {
                DUE.is("law", x.law(), m.law());
            }
            return;
        }
        int group = draws.nextInt(10);
        if (group < 2) {
            squares();
        } else if (group < 4) {
            thoughts();
        } else if (group < 6) {
            felt();
        } else if (group < 8) {
            deeds();
        } else if (draws.nextInt(2) == 0) {
            acts();
        } else {
            shelves();
        }
    }

    private void squares() {
        int[] most = {4, 9, 12, 29, 99, 4095, 11, 12};
        int a = to(30);
        int b = to(30);
        int what = to(8);
        switch (draws.nextInt(12)) {
            case 0:
                DUE.is("house(" + a + ", " + b + ")", x.house(a, b), m.house(a, b));
                break;
            case 1:
                int shelf = to(6);
                int i = to(9);
                int n = some(1, 8);
                DUE.is("houses(" + shelf + ", " + i + ", " + n + ")", x.houses(shelf, i, n), m.houses(shelf, i, n));
                break;
            case 2: case 3:
                int number = what < 3 || what > 7 ? a : what < 6 ? to(5) : draws.nextInt(8) / 7;
                DUE.is("of(" + number + ", " + what + ")", x.of(number, what), m.of(number, what));
                break;
            case 4:
                int letter = draws.nextInt(3) == 0 ? some(0, 255) : letters().charAt(draws.nextInt(letters().length()));
                DUE.is("feed(" + letter + ")", x.feed(letter), m.feed(letter));
                break;
            case 5:
                DUE.is("law()", x.law(), m.law());
                break;
            case 6:
                pending = text(draws, draws.nextInt(60));
                break;
            default:
                int to = what < 3 || what > 7 ? a : what < 6 ? to(5) : draws.nextInt(12) / 11;
                int v = what < 0 || what > 7 ? 0 : what == 5 && draws.nextBoolean() ? 4095 : some(0, most[what]);
                mend(to, what, v);
                break;
        }
    }

    private static String letters() {
        return "stwmny0123456789+-*/%<=>|&!()?;";
    }

    /** A text by the grammar, at times with one byte changed, put in or left out. */
    private static String text(Random draws, int size) {
        StringBuilder text = new StringBuilder();
        do {
            if (text.length() > 0) {
                text.append(';');
            }
            if (draws.nextInt(2) == 0) {
                expression(draws, text, 0, 0).append('?');
            }
            expression(draws, text, 0, 0);
        } while (text.length() < size);
        if (draws.nextInt(3) == 0) {
            int at = draws.nextInt(text.length());
            char letter = letters().charAt(draws.nextInt(letters().length()));
            switch (draws.nextInt(4)) {
                case 0: text.setCharAt(at, letter); break;
                case 1: text.insert(at, letter); break;
                case 2: text.deleteCharAt(at); break;
                default: text.setLength(at); break;
            }
        }
        return text.length() > 120 ? text.substring(0, 120) : text.toString();
    }

    private static StringBuilder expression(Random draws, StringBuilder text, int rank, int open) {
        String[] signs = {"|", "&", "<=>", "+-", "*/%"};
        if (rank == 5) {
            int kind = draws.nextInt(open > 6 ? 6 : 10);
            if (kind < 4) {
                text.append("stwmny".charAt(draws.nextInt(6)));
            } else if (kind < 6) {
                text.append(draws.nextInt(draws.nextBoolean() ? 10 : 10000));
            } else if (kind < 8) {
                expression(draws, text.append(kind == 6 ? '!' : '-'), 5, open + 1);
            } else {
                expression(draws, text.append('('), 0, open + 1).append(')');
            }
            return text;
        }
        expression(draws, text, rank + 1, open);
        while (draws.nextInt(6) == 0) {
            text.append(signs[rank].charAt(draws.nextInt(signs[rank].length())));
            expression(draws, text, rank + 1, open);
            if (rank == 2) {
                break;
            }
        }
        return text;
    }

    private static void faultsOfTexts(int texts) {
        Random draws = new Random(4242);
        for (int i = 0; i < texts && !DUE.anyWrong(); i++) {
            String text = text(draws, draws.nextInt(40));
            EiderClimate y = new EiderClimate();
            for (int k = 0; k < text.length(); k++) {
                y.feed(text.charAt(k));
            }
            int fault = Model.fault(text);
            DUE.is(text, y.law(), fault < 0 ? 1 : -100 - fault);
        }
    }

    private void thoughts() {
        int n = to(49);
        int place = to(30);
        int house = to(5);
        int what = to(2);
        switch (draws.nextInt(9)) {
            case 0: case 1:
                int which = to(4);
                DUE.is("later(" + n + ", " + place + ", " + which + ")", x.later(n, place, which), m.later(n, place, which));
                break;
            case 2: case 3:
                DUE.is("cold(" + n + ", " + what + ")", x.cold(n, what), m.cold(n, what));
                break;
            case 4:
                DUE.is("first(" + house + ")", x.first(house), m.first(house));
                break;
            case 5:
                DUE.is("often(" + house + ", " + n + ")", x.often(house, n), m.often(house, n));
                break;
            case 6:
                int k = draws.nextInt(24) == 0 ? to(3) : draws.nextInt(5) - 1;
                DUE.is("pulls(" + house + ", " + k + ")", x.pulls(house, k), m.pulls(house, k));
                break;
            case 7:
                DUE.is("shakes(" + what + ")", x.shakes(what), m.shakes(what));
                break;
            default:
                int squares = to(3);
                DUE.is("stuffs(" + squares + ", " + what + ")", x.stuffs(squares, what), m.stuffs(squares, what));
                break;
        }
    }

    private void felt() {
        int sp = draws.nextInt(24) == 0 ? to(700) : 100 * draws.nextInt(6) + draws.nextInt(30);
        int what = to(2);
        int square = to(30);
        switch (draws.nextInt(8)) {
            case 0:
                DUE.is("judge(" + sp + ")", x.judge(sp), m.judge(sp));
                break;
            case 1: case 2:
                int which = to(5);
                DUE.is("felt(" + sp + ", " + square + ", " + which + ")", x.felt(sp, square, which), m.felt(sp, square, which));
                break;
            case 3:
                feltRow();
                break;
            case 4:
                int ft = draws.nextInt(24) == 0 ? to(4000) : 100 * draws.nextInt(30) + draws.nextInt(30);
                DUE.is("walk(" + ft + ", " + what + ")", x.walk(ft, what), m.walk(ft, what));
                break;
            case 5:
                DUE.is("patches(" + what + ")", x.patches(what), m.patches(what));
                break;
            case 6:
                int hh = draws.nextInt(24) == 0 ? to(90) : 10 * draws.nextInt(4) + draws.nextInt(4);
                int rr = draws.nextInt(24) == 0 ? to(90) : 10 * draws.nextInt(5) + draws.nextInt(5);
                int n = some(1, 4);
                String call = "byTurns(" + hh + ", " + rr + ", " + n + ", " + what + ")";
                DUE.is(call, x.byTurns(hh, rr, n, what), m.byTurns(hh, rr, n, what));
                break;
            default:
                int seed = draws.nextInt();
                int nm = 100 * some(1, 6) + some(1, 24);
                int house = some(-1, 4);
                DUE.is("drawn(" + seed + ", " + nm + ", " + house + ")", x.drawn(seed, nm, house), m.drawn(seed, nm, house));
                break;
        }
    }

    /** Puts down what is felt, most often rightly, so that something fits. */
    private void feltRow() {
        int shelf = draws.nextInt(6);
        int place = draws.nextInt(30);
        int n = draws.nextInt(5) + (draws.nextInt(10) == 0 ? 50 : 0);
        DUE.is("row", x.row(shelf, 0, n), m.row(shelf, 0, n));
        for (int i = 0; i < n; i++) {
            int v = m.later(Math.min(i, 48), place, 0) + (draws.nextInt(40) == 0 ? 1 : 0);
            DUE.is("put", x.put(shelf, i, v), m.put(shelf, i, v));
        }
        int sp = 100 * shelf + place;
        int square = draws.nextInt(3) == 0 ? draws.nextInt(30) : place;
        DUE.is("judge(" + sp + ")", x.judge(sp), m.judge(sp));
        for (int what = 0; what < 5; what++) {
            DUE.is("felt(" + sp + ", " + square + ", " + what + ")", x.felt(sp, square, what), m.felt(sp, square, what));
        }
    }

    private void deeds() {
        int square = to(30);
        switch (draws.nextInt(12)) {
            case 0: case 1:
                DUE.is("month()", x.month(), m.month());
                break;
            case 2:
                int rw = to(10);
                DUE.is("pull(" + rw + ")", x.pull(rw), m.pull(rw));
                break;
            case 3:
                DUE.is("shake(" + square + ")", x.shake(square), m.shake(square));
                break;
            case 4: case 5:
                int st = to(60);
                DUE.is("stuff(" + square + ", " + st + ")", x.stuff(square, st), m.stuff(square, st));
                break;
            case 6: case 7:
                int what = to(5);
                DUE.is("led(" + what + ")", x.led(what), m.led(what));
                break;
            case 8:
                DUE.is("image()", x.image(), m.image());
                break;
            case 9:
                DUE.is("back()", x.back(), m.back());
                break;
            case 10:
                DUE.is("undo()", x.undo(), m.undo());
                break;
            default:
                DUE.is("redo()", x.redo(), m.redo());
                break;
        }
    }

    private void acts() {
        int body = to(20);
        switch (draws.nextInt(6)) {
            case 0: case 1:
                int kind = to(8);
                DUE.is("body(" + kind + ")", x.body(kind), m.body(kind));
                break;
            case 2: case 3:
                int act = to(4);
                int with = draws.nextInt();
                DUE.is("act(" + body + ", " + act + ", " + with + ")", x.act(body, act, with), m.act(body, act, with));
                break;
            case 4:
                int i = to(14);
                DUE.is("trace(" + i + ")", x.trace(i), m.trace(i));
                break;
            default:
                int what = to(6);
                DUE.is("count(" + what + ")", x.count(what), m.count(what));
                break;
        }
    }

    private void shelves() {
        int shelf = to(6);
        int i = to(9);
        switch (draws.nextInt(10)) {
            case 0:
                int body = some(-1, 10);
                DUE.is("keep(" + shelf + ", " + body + ")", x.keep(shelf, body), m.keep(shelf, body));
                break;
            case 1: case 2:
                int sort = draws.nextBoolean() ? draws.nextInt(2) : to(5);
                int n = to(10);
                DUE.is("row(" + shelf + ", " + sort + ", " + n + ")", x.row(shelf, sort, n), m.row(shelf, sort, n));
                break;
            case 3: case 4: case 5:
                long v = draws.nextInt(4) == 0 ? draws.nextLong() : draws.nextInt(40);
                DUE.is("put(" + shelf + ", " + i + ", " + v + ")", x.put(shelf, i, v), m.put(shelf, i, v));
                break;
            case 6: case 7:
                DUE.is("element(" + shelf + ", " + i + ")", x.element(shelf, i), m.element(shelf, i));
                break;
            case 8:
                int other = to(6);
                int j = to(5);
                int many = to(5);
                String call = "shift(" + shelf + ", " + i + ", " + other + ", " + j + ", " + many + ")";
                DUE.is(call, x.shift(shelf, i, other, j, many), m.shift(shelf, i, other, j, many));
                break;
            default:
                int k = to(8);
                DUE.is("taken(" + shelf + ", " + k + ")", x.taken(shelf, k), m.taken(shelf, k));
                break;
        }
    }
}
