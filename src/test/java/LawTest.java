/** Promises 6 and 7: feed, law; and what the law gives. */
public final class LawTest {
    private static final Due DUE = new Due("LawTest");

    public static void main(String[] args) {
        feed();
        values();
        conditions();
        faults();
        faultLeavesLaw();
        openAtOnce();
        names();
        DUE.end();
    }

    private static void tell(EiderClimate x, String text) {
        for (int i = 0; i < text.length(); i++) {
            x.feed(text.charAt(i));
        }
    }

    /** What a text gives at square 0 of a new cover; -100 less the fault. */
    private static int given(String text) {
        EiderClimate x = new EiderClimate();
        tell(x, text);
        int read = x.law();
        return read == 1 ? x.later(0, 0, 0) : read;
    }

    private static void value(String text, int want) {
        DUE.is(text, given(text), want);
    }

    private static void fault(String text, int place) {
        DUE.is(text, given(text), -100 - place);
    }

    private static void feed() {
        EiderClimate x = new EiderClimate();
        DUE.is("feed(-1)", x.feed(-1), -1);
        DUE.is("feed(256)", x.feed(256), -1);
        for (int i = 1; i <= 120; i++) {
            DUE.is("feed", x.feed(i == 1 ? 255 : i == 2 ? 0 : '1'), i);
        }
        DUE.is("full", x.feed('1'), -3);
        DUE.is("BAD is named before FULL", x.feed(256), -1);
        DUE.is("count", x.count(2), 120);
        DUE.is("law", x.law(), -100);
        DUE.is("empty then", x.count(2), 0);
        StringBuilder sum = new StringBuilder("1");
        while (sum.length() < 119) {
            sum.append("+1");
        }
        tell(x, sum.toString());
        DUE.is("law of 119 bytes", x.law(), 1);
        DUE.is("empty then", x.count(2), 0);
        DUE.is("sum", x.later(0, 0, 0), 60);
        tell(x, "-" + sum);
        DUE.is("law of 120 bytes, each of which counts", x.law(), 1);
        DUE.is("sum less two", x.later(0, 0, 0), 58);
        tell(x, sum.append('+').toString());
        DUE.is("120 bytes end too early", x.law(), -220);
    }

    private static void values() {
        value("0007", 7);
        value("9999", 99);
        value("-1", 0);
        value("1+2*3", 7);
        value("(1+2)*3", 9);
        value("20-5-3", 12);
        value("50/7/2", 3);
        value("2*17%5*3", 12);
        value("7-2+1", 6);
        value("10+-7/2", 7);
        value("10+-7%4", 7);
        value("10+7/0", 10);
        value("10+7%0", 10);
        value("5--5", 10);
        value("--5", 5);
        value("!0", 1);
        value("!7", 0);
        value("!!7", 1);
        value("-!0+3", 2);
        value("!1+1", 1);
        value("2<3", 1);
        value("3<3", 0);
        value("3=3", 1);
        value("4>3", 1);
        value("1+2=3*1", 1);
        value("5|0", 1);
        value("0|0", 0);
        value("5&7", 1);
        value("5&0", 0);
        value("1|0&0", 1);
        value("0&0|1", 1);
        value("2=2&3>1", 1);
        value("7", 7);
        value("(5)", 5);
        value("(2<3)+(3>2)", 2);
        value("(0|3)*9", 9);
        value("9999*9999*9999<0", (9999 * 9999 * 9999 < 0) ? 1 : 0);
        fault("9999*9999*43=4299140043-0", 17);
        value("(9999*9999*43<0)+9999*9999*22%97", clamp((9999 * 9999 * 43 < 0 ? 1 : 0) + 9999 * 9999 * 22 % 97));
        // the least int by -1
        value("(-1024*1024*2048)/-1<0", 1);
        value("(-1024*1024*2048)%-1=0", 1);
        value("(-1024*1024*2048)-1>0", 1);
    }

    private static int clamp(int v) {
        return Math.max(0, Math.min(99, v));
    }

    private static void conditions() {
        value("1?5", 5);
        value("0?5", 0);
        value("0?5;7", 7);
        value("1?5;7", 5);
        value("-3?5;7", 5);
        value("6;7", 6);
        value("0;7", 0);
        value("0?1;0?2;3?4;5", 4);
        value("0?1;0?2", 0);
        value("0?1;8;3?4", 8);
        value("1?0;9", 0);
        value("1|0?2=2;9", 1);
    }

    private static void faults() {
        fault("", 0);
        fault(" ", 0);
        fault("1 ", 1);
        fault("x", 0);
        fault("12345", 4);
        fault("1+12345", 6);
        fault("1+", 2);
        fault("+1", 0);
        fault("1+*2", 2);
        fault("1<2<3", 3);
        fault("1<2=3", 3);
        value("(1<2)<3", 1);
        value("1<2&3=3", 1);
        fault("(1", 2);
        fault("(", 1);
        fault("()", 1);
        fault("1)", 1);
        fault("(1))", 3);
        fault("1?", 2);
        fault("1?2?3", 3);
        fault("(1?2)", 2);
        fault("?1", 0);
        fault("1;", 2);
        fault(";1", 0);
        fault("1;;1", 2);
        fault("(1;2)", 2);
        fault("1||2", 2);
        fault("1&&2", 2);
        fault("st", 1);
        fault("s1", 1);
        fault("1s", 1);
        fault("1(2)", 1);
        fault("(1)(2)", 3);
        fault("(1)2", 3);
        fault("1!2", 1);
        fault("!", 1);
        fault("-", 1);
        fault("1-!", 3);
        fault("1?2;3?", 6);
        fault("S", 0);
        fault("1+\u00ff", 2);
        fault("1+\0", 2);
        fault("1==1", 2);
        fault("1<=1", 2);
    }

    private static void openAtOnce() {
        value("((((((5))))))", 5);
        fault("(((((((5)))))))", 6);
        value("!!!!!!5", 1);
        fault("!!!!!!!5", 6);
        value("------5", 5);
        fault("-------5", 6);
        value("5-------5", 0);
        fault("5--------5", 8);
        value("(-(!(-0)))+3", 2);
        fault("(-(!(-(0))))+3", 6);
        fault("(-(!(-!0)))+3", 6);
        // what is closed is no longer open
        value("(((((1)+(2)))))*(((((3)))))", 9);
        value("!!!!!1+!!!!!1", 0);
        value("(((((!1+!1+!0)))))", 1);
        fault("(((((!!1)))))", 6);
    }

    private static void faultLeavesLaw() {
        EiderClimate x = new EiderClimate();
        x.mend(0, 0, 2);
        x.mend(0, 1, 3);
        tell(x, "1+");
        DUE.is("fault", x.law(), -102);
        DUE.is("the tape is empty then", x.count(2), 0);
        DUE.is("without a text still", x.later(0, 0, 0), 6);
        tell(x, "t*t");
        DUE.is("law", x.law(), 1);
        DUE.is("by the law", x.later(0, 0, 0), 9);
        DUE.is("an empty tape is no text", x.law(), -100);
        DUE.is("by the law still", x.later(0, 0, 0), 9);
        tell(x, "s?1;2;(");
        DUE.is("fault", x.law(), -107);
        DUE.is("by the law still", x.later(0, 0, 0), 9);
        tell(x, "s?41;2");
        DUE.is("law", x.law(), 1);
        DUE.is("by the new law", x.later(0, 0, 0), 41);
        DUE.is("a law is no change", x.count(3), 2);
    }

    private static void names() {
        EiderClimate x = new EiderClimate();
        x.mend(14, 0, 3);
        x.mend(14, 1, 4);
        x.mend(14, 2, 5);
        x.mend(8, 1, 9);
        x.mend(15, 1, 8);
        x.mend(20, 1, 7);
        x.mend(13, 1, 6);
        x.mend(7, 1, 5);
        x.mend(0, 6, 11);
        DUE.is("without a text", x.later(0, 14, 0), 3 * 4 + 30 / 4 - 5);
        String[] texts = {"s", "t", "w", "m", "n", "y"};
        int[] wants = {3, 4, 5, 11, 30, 2};
        for (int i = 0; i < texts.length; i++) {
            tell(x, texts[i]);
            DUE.is("law", x.law(), 1);
            DUE.is(texts[i], x.later(0, 14, 0), wants[i]);
        }
        tell(x, "n");
        x.law();
        x.mend(0, 1, 1);
        x.mend(5, 1, 2);
        x.mend(24, 1, 3);
        x.mend(29, 1, 4);
        DUE.is("nothing is round the rim: 0", x.later(0, 0, 0), 0);
        DUE.is("nothing is round the rim: 5", x.later(0, 5, 0), 0);
        DUE.is("nothing is round the rim: 6", x.later(0, 6, 0), 6);
        DUE.is("nothing is round the rim: 24", x.later(0, 24, 0), 0);
        DUE.is("nothing is round the rim: 29", x.later(0, 29, 0), 0);
        DUE.is("nothing is round the rim: 23", x.later(0, 23, 0), 4);
    }
}
