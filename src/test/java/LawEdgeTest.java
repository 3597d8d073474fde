/** The edges of promises 6 and 7 and of THE LAW, a test for each sentence of the document that names one. */
public final class LawEdgeTest {
    private static final Due DUE = new Due("LawEdgeTest");
    private static final Edge LIVED = new Edge(DUE, Edge::live);
    private static final Edge FULL_TAPE = new Edge(DUE, x -> Edge.feed(x, "1".repeat(120)));
    /** 2 to the 31st, which wraps to the least int. */
    private static final String LEAST = "2048*1024*1024";

    public static void main(String[] args) {
        feedBytes();
        feedFull();
        tapeIsEmptyThen();
        faultLeavesTheLaw();
        nothingIsLeftOfLawsBefore();
        tooEarly();
        lastByteCounts();
        lines();
        condition();
        firstLineCounts();
        comparedOnce();
        oneAlone();
        digits();
        noBlanks();
        everyByte();
        openAtOnce();
        openIsClosed();
        wraps();
        divides();
        byNothing();
        oneOrNothing();
        allIsWorkedOut();
        heldWithin();
        names();
        nearTheRim();
        withoutText();
        DUE.end();
    }

    /** What a text gives at square 0 of a new cover; -100 less the fault. */
    private static int given(String text) {
        EiderClimate x = new EiderClimate();
        int read = Edge.tell(x, text);
        return read == 1 ? x.later(0, 0, 0) : read;
    }

    private static void value(String text, int want) {
        DUE.is(text, given(text), want);
    }

    private static void fault(String text, int place) {
        DUE.is(text, given(text), -100 - place);
    }

    /** "A byte (0 .. 255) comes to THE TAPE: how many it has. BAD". */
    private static void feedBytes() {
        for (int letter : Edge.outside(0, 255)) {
            LIVED.changesNothing("feed(" + letter + ")", Edge.BAD, x -> x.feed(letter));
        }
        LIVED.answers("feed(0)", 3, x -> x.feed(0));
        LIVED.answers("feed(255)", 3, x -> x.feed(255));
        LIVED.answers("how many", 3, x -> Edge.behind(x.feed(255), x.count(2)));
    }

    /** "FULL (120)", "at most 120 bytes". */
    private static void feedFull() {
        EiderClimate x = new EiderClimate();
        for (int i = 1; i <= 120; i++) {
            DUE.is("feed " + i, x.feed(' '), i);
        }
        FULL_TAPE.changesNothing("the 121st", Edge.FULL, y -> y.feed('1'));
        FULL_TAPE.changesNothing("the 121st, 256", Edge.BAD, y -> y.feed(256));
        FULL_TAPE.changesNothing("the 121st, -1", Edge.BAD, y -> y.feed(-1));
        FULL_TAPE.answers("a byte behind a law", 1, y -> Edge.behind(y.law(), y.feed('1')));
    }

    /** "THE TAPE is empty then." */
    private static void tapeIsEmptyThen() {
        LIVED.answers("behind a fault", 0, x -> Edge.behind(x.law(), x.count(2)));
        LIVED.answers("behind a law", 0, x -> Edge.behind(x.feed('s') + x.law(), x.count(2)));
        LIVED.answers("so the next one begins anew", 7, x -> {
            x.law();
            Edge.tell(x, "7");
            return x.later(0, 0, 0);
        });
        LIVED.answers("an empty tape again", -100, x -> Edge.behind(x.law(), x.law()));
    }

    /** "THE TAPE becomes THE LAW: 1; -100 less its FAULT": only what is a law becomes it. */
    private static void faultLeavesTheLaw() {
        EiderClimate x = new EiderClimate();
        Edge.square(x, 0, 3, 5, 1);
        DUE.is("fault", Edge.tell(x, "7;"), -102);
        DUE.is("without a text still", x.later(0, 0, 0), 14);
        DUE.is("law", Edge.tell(x, "t?s*7;1"), 1);
        DUE.is("by it", x.later(0, 0, 0), 21);
        for (String text : new String[] {"", "9;", "t?9;1)", "9?9;12345", "8;8;8;!", "x"}) {
            DUE.holds("fault in " + text, Edge.tell(x, text) <= -100);
            DUE.is("by the one before " + text, x.later(0, 0, 0), 21);
        }
        DUE.is("another law", Edge.tell(x, "5"), 1);
        DUE.is("by the new one", x.later(0, 0, 0), 5);
    }

    /** "THE TAPE becomes THE LAW": a shorter one has nothing of the longer ones before, faults or not. */
    private static void nothingIsLeftOfLawsBefore() {
        for (String before : new String[] {"!1", "-9", "!!9;3", "1+2*3-4", "0?1;0?2;7", "s|t&w=m", "!1+", "-9;"}) {
            for (String text : new String[] {"5", "0?4;5", "1?5", "2+3"}) {
                EiderClimate x = new EiderClimate();
                Edge.tell(x, before);
                Edge.tell(x, before);
                Edge.tell(x, before);
                DUE.is(text + " behind " + before, Edge.tell(x, text), 1);
                DUE.is(text + " behind " + before + " gives", x.later(0, 0, 0), 5);
                DUE.is("once more", Edge.tell(x, "0?4"), 1);
                DUE.is("once more gives", x.later(0, 0, 0), 0);
            }
        }
    }

    /** "FAULT: .. the length, if it ends too early." */
    private static void tooEarly() {
        for (String text : new String[] {"", "!", "-", "(", "1+", "1-", "1*", "1/", "1%", "1<", "1=", "1>", "1&", "1|",
            "1?", "1;", "1?1;", "1?1;1?", "(1", "(1+", "((1)", "!(", "1?(1", "s?t;(w"}) {
            fault(text, text.length());
        }
        String most = "1+".repeat(60);
        fault(most, 120);
        fault(most.substring(0, 118), 118);
        fault("1+".repeat(59) + "1?", 120);
        fault("1+".repeat(59) + "1;", 120);
    }

    /** "at most 120 bytes": the 120th counts, as a part of the text or as its fault. */
    private static void lastByteCounts() {
        value("0+".repeat(59) + "17", 17);
        value("0+".repeat(58) + "0017", 17);
        value("0+".repeat(59) + "9", 9);
        fault("1+".repeat(59) + "1)", 119);
        fault("1+".repeat(59) + "1 ", 119);
        fault("0+".repeat(57) + "000017", 118);
        value("0;".repeat(59) + "8", 0);
        value("0?9;".repeat(29) + "8", 8);
        value("0?9;".repeat(29) + "8?11", 11);
        value("0?9;".repeat(29) + "1?81", 81);
    }

    /** "LINES, one or more, parted by ;". */
    private static void lines() {
        value("5", 5);
        value("5;6", 5);
        fault(";", 0);
        fault("5;", 2);
        fault(";5", 0);
        fault("5;;6", 2);
        fault("(5;6)", 2);
        fault("0?5;;6", 4);
    }

    /** "LINE: E, or E ? E". */
    private static void condition() {
        fault("?", 0);
        fault("?5", 0);
        fault("1?", 2);
        fault("1??5", 2);
        fault("1?2?3", 3);
        fault("1?;5", 2);
        fault("(1?2)", 2);
        value("1?2", 2);
        value("1?2;1?3", 2);
    }

    /** "The first LINE without a first E, or whose first E is not 0, counts; none: 0." */
    private static void firstLineCounts() {
        value("0?5", 0);
        value("0?5;0?6", 0);
        value("0?5;0?6;7", 7);
        value("1?5;6", 5);
        value("-1?5;6", 5);
        value("9999?5;6", 5);
        value("0;6", 0);
        value("1?0;6", 0);
        value("0?5;0;7", 0);
        value("0?5;1?6;7", 6);
        value("2-2?5;6", 6);
        value(LEAST + "?5;6", 5);
        value("4096*1024*1024?5;6", 6);
        value("-0?5;6", 6);
    }

    /** "B = S, or S < S, S = S, S > S": one sign at most. */
    private static void comparedOnce() {
        for (char one : "<=>".toCharArray()) {
            value("5" + one + "5", one == '=' ? 1 : 0);
            for (char other : "<=>".toCharArray()) {
                fault("1" + one + "2" + other + "3", 3);
                // what is in brackets is 1 for < alone, and then more than 0
                value("(1" + one + "2)" + other + "0", other == (one == '<' ? '>' : '=') ? 1 : 0);
            }
            value("1" + one + "1&1" + one + "1", one == '=' ? 1 : 0);
            value("1" + one + "1|1" + one + "1", one == '=' ? 1 : 0);
            value("1" + one + "1?1" + one + "1;5", one == '=' ? 1 : 5);
        }
    }

    /** "E = A { | A }. A = B { & B }. B = S": alone it is what it is, no 1 or 0. */
    private static void oneAlone() {
        value("77", 77);
        value("(77)", 77);
        value("7|7", 1);
        value("7&7", 1);
        value("7&7|0", 1);
        value("7+7|0", 1);
        value("(7)|0", 1);
    }

    /** "a number (1 to 4 digits)". */
    private static void digits() {
        value("0", 0);
        value("00", 0);
        value("000", 0);
        value("0000", 0);
        value("0099", 99);
        value("9999/101", 99);
        fault("00000", 4);
        fault("99999", 4);
        fault("1+99999", 6);
        fault("1?12345", 6);
        fault("1;12345", 6);
        fault("(12345)", 5);
        fault("!12345", 5);
        value("1234-1200+0000", 34);
        fault("1(", 1);
        fault("1s", 1);
        fault("s1", 1);
    }

    /** "No blanks." */
    private static void noBlanks() {
        fault(" 1", 0);
        fault("1 ", 1);
        fault("1 +1", 1);
        fault("1+ 1", 2);
        fault("1? 1", 2);
        fault("1; 1", 2);
        fault("1 1", 1);
        fault("\t1", 0);
        fault("1\n", 1);
        fault("1\0", 1);
    }

    /** "the place (from 0) of the first byte with which no TEXT goes on": each byte, wherever another set goes on. */
    private static void everyByte() {
        String digits = "0123456789";
        String ahead = "stwmny" + digits + "!-(";
        String joins = "|&<=>+-*/%";
        goesOn("", ahead);
        goesOn("s", joins + "?;");
        goesOn("1", joins + "?;" + digits);
        goesOn("123", joins + "?;" + digits);
        goesOn("1234", joins + "?;");
        goesOn("1+", ahead);
        goesOn("1-", ahead);
        goesOn("!", ahead);
        goesOn("-", ahead);
        goesOn("(", ahead);
        goesOn("(s", joins + ")");
        goesOn("(s)", joins + "?;");
        goesOn("((s)", joins + ")");
        goesOn("s<t", "|&+-*/%?;");
        goesOn("s=t&w", joins + "?;");
        goesOn("s>t|w", joins + "?;");
        goesOn("(s<t", "|&+-*/%)");
        goesOn("(s<t)", joins + "?;");
        goesOn("s?", ahead);
        goesOn("s?t", joins + ";");
        goesOn("s;", ahead);
        goesOn("s?t;w", joins + "?;");
        goesOn("((((((", "stwmny" + digits);
        goesOn("!!!!!!", "stwmny" + digits);
        goesOn("-----", ahead);
        goesOn("s-------", "stwmny" + digits);
    }

    /** Byte 255 goes on nowhere, so that the fault is at it if the byte ahead of it went on. */
    private static void goesOn(String text, String bytes) {
        for (int b = 0; b <= 255; b++) {
            int place = text.length() + (bytes.indexOf(b) >= 0 ? 1 : 0);
            fault(text + (char) b + (char) 255, place);
        }
    }

    /** "At most 6 of ( ! - ahead of an O are open at once." */
    private static void openAtOnce() {
        String[] signs = {"(", "!", "-"};
        for (int mix = 0; mix < 729; mix++) {
            StringBuilder open = new StringBuilder();
            StringBuilder close = new StringBuilder();
            for (int k = 0, left = mix; k < 6; k++, left /= 3) {
                open.append(signs[left % 3]);
                close.append(left % 3 == 0 ? ")" : "");
            }
            DUE.holds("six: " + open, given(open + "1" + close) >= 0);
            for (String seventh : signs) {
                fault(open + seventh + "1" + close, 6);
            }
        }
        fault("1+((((((-1))))))", 8);
        fault("1?((((((-1))))))", 8);
        fault("0;((((((-1))))))", 8);
    }

    /** "are open at once": what is closed, and the - that joins, is not open. */
    private static void openIsClosed() {
        value("((((((1))))))+((((((2))))))", 3);
        value("!!!!!!0+!!!!!!1", 1);
        value("------4-------1", 3);
        fault("------4--------1", 14);
        value("(((((-1)-1)-1)-1)-1)+9", 4);
        value("(((((4)-(1)))))-(((((-1)))))", 4);
        value("!(!(!(0)))+!(!(!(0)))", 2);
        fault("!(!(!(!0)))", 6);
        value("((((((1))))))?((((((2))))));3", 2);
        value("!!!!!!0?1;!!!!!!1", 1);
        value("!!!!!!s*9+!!!!!!t|1", 1);
    }

    /** "Ints that wrap". */
    private static void wraps() {
        value(LEAST + "<0", 1);
        value(LEAST + "-1>0", 1);
        value(LEAST + "-1+1<0", 1);
        value("-(" + LEAST + ")<0", 1);
        value("-(" + LEAST + ")=" + LEAST, 1);
        value("4096*1024*1024", 0);
        value("4096*1024*1024+7", 7);
        value("(" + LEAST + "-1)*2+9", 7);
        value("(" + LEAST + ")*(0-1)<0", 1);
    }

    /** "/ and % toward 0". */
    private static void divides() {
        value("7/2", 3);
        value("10+-7/2", 7);
        value("10+7/-2", 7);
        value("-7/-2", 3);
        value("7%2", 1);
        value("10+-7%2", 9);
        value("10+7%-2", 11);
        value("10+-7%-2", 9);
        value("10+-1/2", 10);
        value("1/2", 0);
        value(LEAST + "/-1<0", 1);
        value(LEAST + "%-1", 0);
        value("(" + LEAST + "-1)%10", 7);
        value("8-(" + LEAST + ")%10", 16);
    }

    /** "by 0 they give 0". */
    private static void byNothing() {
        value("7/0", 0);
        value("7%0", 0);
        value("0/0", 0);
        value("9+7/0", 9);
        value("9+7%0", 9);
        value("9+7/(3-3)", 9);
        value("9+-7%(3-3)", 9);
        value("9+" + LEAST + "/0", 9);
        value("1/0?5;6", 6);
    }

    /** "| & < = > ! give 1, 0". */
    private static void oneOrNothing() {
        value("0|0", 0);
        value("0|9", 1);
        value("9|0", 1);
        value("9|9", 1);
        value("0&0", 0);
        value("0&9", 0);
        value("9&0", 0);
        value("9&9", 1);
        value("-1|0", 1);
        value("-1&-1", 1);
        value("2&1", 1);
        value("1<2", 1);
        value("2<2", 0);
        value("3<2", 0);
        value("1=2", 0);
        value("2=2", 1);
        value("3=2", 0);
        value("1>2", 0);
        value("2>2", 0);
        value("3>2", 1);
        value("-1<0", 1);
        value("!0", 1);
        value("!1", 0);
        value("!9", 0);
        value("!-1", 0);
        for (String nothing : new String[] {"0|0", "0&0", "0&1", "1&0", "1<1", "2<1", "1=2", "1>1", "1>2", "!1"}) {
            value("50+(" + nothing + ")", 50);
            value("(" + nothing + ")=0", 1);
        }
        for (String one : new String[] {"0|7", "7|0", "7|7", "7&8", "1<9", "7=7", "9>1", "!0"}) {
            value("50+(" + one + ")", 51);
            value("(" + one + ")=1", 1);
        }
        value("-!0+1", 0);
        value("-!1+1", 1);
    }

    /** "all is worked out": one behind the other from the left, by how tight each binds. */
    private static void allIsWorkedOut() {
        value("9-3-2", 4);
        value("9-(3-2)", 8);
        value("64/8/2", 4);
        value("64/(8/2)", 16);
        value("17%10%4", 3);
        value("17%(10%4)", 1);
        value("2+3*4", 14);
        value("3*4+2", 14);
        value("2*3%4", 2);
        value("7%4*3", 9);
        value("8/2*3", 12);
        value("1+1<3", 1);
        value("3>1+1", 1);
        value("0&0|1", 1);
        value("1|0&0", 1);
        value("1|1/0", 1);
        value("0&1/0", 0);
        value("0=0&1", 1);
        value("0&1=0", 0);
        value("!0+1", 2);
        value("!(0+1)", 0);
        value("!0*5", 5);
        value("-2*-3", 6);
    }

    /** "held within 0 .. 99". */
    private static void heldWithin() {
        value("98", 98);
        value("99", 99);
        value("100", 99);
        value("9999", 99);
        value("1", 1);
        value("0", 0);
        value("-1", 0);
        value("0-9999", 0);
        value(LEAST, 0);
        value(LEAST + "-1", 99);
        value("1?100;5", 99);
        value("1?-1;5", 0);
        // within the text itself nothing is held
        value("200-150", 50);
        value("-150+200", 50);
        value("-1?7;5", 7);
        EiderClimate x = new EiderClimate();
        Edge.square(x, 0, 0, 0, 12);
        DUE.is("without a text, below 0", x.later(0, 0, 0), 0);
    }

    /** "s SORT, t THICK, w WORN, m MONTH, n .., y Y": each at its least and its most. */
    private static void names() {
        EiderClimate x = new EiderClimate();
        String signs = "stwm";
        int[] most = {4, 9, 12, 11};
        for (int what = 0; what < 4; what++) {
            int number = what < 3 ? 29 : 0;
            int told = what < 3 ? what : 6;
            DUE.is("law", Edge.tell(x, signs.substring(what, what + 1)), 1);
            DUE.is(signs.charAt(what) + " at first", x.later(0, 29, 0), 0);
            x.mend(number, told, most[what]);
            DUE.is(signs.charAt(what) + " most", x.later(0, 29, 0), most[what]);
            DUE.is(signs.charAt(what) + " elsewhere", x.later(0, 0, 0), what < 3 ? 0 : most[what]);
        }
        Edge.tell(x, "m");
        DUE.is("m behind 11", x.later(1, 0, 0), 0);
        Edge.tell(x, "y");
        for (int place = 0; place < 30; place++) {
            DUE.is("y of " + place, x.later(0, place, 0), place / 6);
        }
    }

    /** "n THICK of all SQUARES up, right, down, left of it together": fewer are there at the rim. */
    private static void nearTheRim() {
        EiderClimate x = new EiderClimate();
        for (int square = 0; square < 30; square++) {
            x.mend(square, 1, 9);
        }
        Edge.tell(x, "n");
        for (int place = 0; place < 30; place++) {
            int column = place % 6;
            int line = place / 6;
            int beside = (column > 0 ? 1 : 0) + (column < 5 ? 1 : 0) + (line > 0 ? 1 : 0) + (line < 4 ? 1 : 0);
            DUE.is("n of " + place, x.later(0, place, 0), 9 * beside);
        }
        for (int square = 0; square < 30; square++) {
            EiderClimate one = new EiderClimate();
            Edge.tell(one, "n");
            one.mend(square, 1, 7);
            for (int place = 0; place < 30; place++) {
                boolean beside = Math.abs(square / 6 - place / 6) + Math.abs(square % 6 - place % 6) == 1;
                DUE.is("n of " + place + " by " + square, one.later(0, place, 0), beside ? 7 : 0);
            }
        }
    }

    /** "Without a text: s by t, and n by 4 (cut), less w." */
    private static void withoutText() {
        for (int beside = 0; beside <= 9; beside++) {
            EiderClimate x = new EiderClimate();
            Edge.square(x, 14, 4, 9, 12);
            x.mend(8, 1, beside);
            x.mend(15, 1, beside);
            x.mend(20, 1, beside);
            DUE.is("cut, of " + 3 * beside, x.later(0, 14, 0), 36 + 3 * beside / 4 - 12);
        }
        EiderClimate x = new EiderClimate();
        x.mend(1, 1, 4);
        DUE.is("one of 4", x.later(0, 0, 0), 1);
        x.mend(0, 2, 1);
        DUE.is("less 1", x.later(0, 0, 0), 0);
        x.mend(0, 2, 2);
        DUE.is("less 2", x.later(0, 0, 0), 0);
        x.mend(1, 1, 3);
        x.mend(0, 2, 0);
        DUE.is("three of 4", x.later(0, 0, 0), 0);
    }
}
