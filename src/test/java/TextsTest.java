/** Promises 11 to 14. */
public final class TextsTest {
    private static final int BEYOND = -1000000001;
    private static final int FULL = -1000000004;
    private static final Due D = new Due("TextsTest");

    public static void main(String[] args) {
        feed();
        faults();
        nothingOfTheOneAhead();
        text();
        untell();
        lawWithoutText();
        lawWithText();
        D.finish();
    }

    /** A TEXT comes to THE TAPE, at most 8 bytes a call. */
    static void write(ElevenYoghurts x, String text) {
        for (int at = 0; at < text.length(); at += 8) Calls.all(x, Calls.fed(text.substring(at, Math.min(at + 8, text.length()))));
    }

    private static void feed() {
        ElevenYoghurts x = new ElevenYoghurts();
        D.due("feed(.., 0)", x.feed(0, 0), BEYOND);
        D.due("feed(.., 9)", x.feed(0, 9), BEYOND);
        D.due("feed(.., -1)", x.feed(0, -1), BEYOND);
        D.due("feed(.., MAX)", x.feed(0, Integer.MAX_VALUE), BEYOND);
        D.due("the lowest byte alone", x.feed(0x6f6f6f6f6f6f6f6cL, 1), 1);
        D.due("l", x.text(0), 1);
        D.due("l is 7", x.law(0, 7, 8, 9), 7);
        D.due("the lowest first", x.feed(0x36353433322b6f31L >>> 8, 7), 7);
        D.due("o+23456", x.text(0), -16);
        D.due("o*2-1", x.feed(0x312d322a6fL, 5), 5);
        D.due("text(0)", x.text(0), 1);
        D.due("o*2-1 of 8", x.law(0, 7, 8, 9), 15);
        for (int i = 1; i <= 7; i++) D.due("8 bytes more", x.feed(-1, 8), 8 * i);
        D.due("61 bytes", x.feed(-1, 5), FULL);
        D.due("64 bytes, n BEYOND ahead of FULL", x.feed(-1, 9), BEYOND);
        D.due("60 bytes", x.feed(-1, 4), 60);
        D.due("one more", x.feed(-1, 1), FULL);
        D.due("count(7)", x.count(7), 60);
    }

    private static void faults() {
        String[] good = {"l", "o", "a", "9999", "0001", "(l)", "(((((l)))))", "!!!!!l", "!(!(!l))", "!l*!!!!!l", "(l)*(((((l)))))", "1<2", "(1<2)<3",
            "1<(2<3)", "l<o|1>2&a=0", "!l+!o", "1+2-3*4/5%6", "!(l<o)", "((1|0)&1)+2"};
        for (String text : good) readBy(0, text, 1);
        readBy(1, "l+s*o", 1);
        Object[] bad = {
            "", 0, "l+", 2, "+l", 0, "-1", 0, "lo", 1, "l o", 1, " l", 0, "s", 0, "l+s", 2, "12345", 4, "l+123456", 6, "1<2<3", 3, "1=1=1", 3, "1<2>3", 3,
            "(1<2=1)", 4, "(l", 2, "(l))", 3, ")", 0, "()", 1, "!", 1, "l!", 1, "l&&o", 2, "l||o", 2, "<l", 0, "l<", 2, "l<=o", 2, "!!!!!!l", 5,
            "((((((l", 5, "!(!(!(l", 5, "!!!!!", 5, "l*!!!!!!l", 7, "(((((l*!o", 7, "(l*(l+(o-(a)", 12, "L", 0, "l;", 1, "3l", 1, "l3", 1, "2(", 1,
            "\0", 0, "l\0", 1, "\u00ec", 0, "l+\u00ff", 2, "l\u00ab1", 1,
        };
        for (int i = 0; i < bad.length; i += 2) readBy(0, (String) bad[i], -10 - (Integer) bad[i + 1]);
        readBy(1, "a", -10);
        readBy(1, "l+s+a", -14);
        StringBuilder sixty = new StringBuilder();
        for (int i = 0; i < 30; i++) sixty.append("l+");
        readBy(0, sixty.toString(), -70);
        sixty.setCharAt(59, 'x');
        readBy(0, sixty.toString(), -69);
        sixty.setCharAt(58, '1');
        sixty.setCharAt(59, '0');
        readBy(0, sixty.toString(), 1);
    }

    /** What is read is THE TAPE as long as it is now, whatever came ahead of it. */
    private static void nothingOfTheOneAhead() {
        ElevenYoghurts x = new ElevenYoghurts();
        String[] texts = {"(l)", "(l", "l+1<2345", "l+", "l+1<234", "l+1<", "!l", "!", "(l)*7", "(l)", "l", ""};
        int[] dues = {1, -12, 1, -12, 1, -14, 1, -11, 1, 1, 1, -10};
        for (int i = 0; i < texts.length; i++) {
            write(x, texts[i]);
            D.due(texts[i] + " after another", x.text(0), dues[i]);
        }
    }

    private static void readBy(int use, String text, int want) {
        ElevenYoghurts x = new ElevenYoghurts();
        write(x, text);
        D.due("text(" + use + ") of " + text, x.text(use), want);
        D.due("THE TAPE after " + text, x.count(7), 0);
        for (int k = 1; k <= 6; k++) D.due("no ERROR: " + text, x.told(k), 0);
        D.due("untell after " + text, x.untell(use), want == 1 ? 1 : 0);
    }

    private static void text() {
        ElevenYoghurts x = new ElevenYoghurts();
        write(x, "l+5");
        D.due("text(2)", x.text(2), BEYOND);
        D.due("text(-1)", x.text(-1), BEYOND);
        D.due("THE TAPE stays", x.count(7), 3);
        D.due("text(0)", x.text(0), 1);
        D.due("the other USE has none", x.untell(1), 0);
        D.due("l+5", x.law(0, 2, 0, 0), 7);
        write(x, "l+6)");
        D.due("FAULT", x.text(0), -13);
        D.due("the one ahead stays", x.law(0, 2, 0, 0), 7);
        write(x, "8");
        D.due("in place of it", x.text(0), 1);
        D.due("8", x.law(0, 2, 0, 0), 8);
        D.due("an empty one", x.text(0), -10);
        D.due("8 still", x.law(0, 2, 0, 0), 8);
        D.due("the other USE by itself", x.law(1, 2, 1, 0), 40);
    }

    private static void untell() {
        ElevenYoghurts x = new ElevenYoghurts();
        write(x, "1");
        x.text(1);
        write(x, "2");
        x.text(0);
        D.due("untell(2)", x.untell(2), BEYOND);
        D.due("untell(-1)", x.untell(-1), BEYOND);
        D.due("untell(1)", x.untell(1), 1);
        D.due("untell(1) again", x.untell(1), 0);
        D.due("as without one", x.law(1, 1, 1, 0), 30);
        D.due("the other's is there", x.law(0, 0, 0, 0), 2);
        D.due("untell(0)", x.untell(0), 1);
        D.due("as without one, too", x.law(0, 0, 1, 1), 27);
    }

    private static void lawWithoutText() {
        ElevenYoghurts x = new ElevenYoghurts();
        D.due("law(0, 9, 3, 2)", x.law(0, 9, 3, 2), 44);
        D.due("held at 99", x.law(0, 0, 8, 0), 99);
        D.due("99 itself", x.law(0, 0, 8, 1), 97);
        D.due("held at 0", x.law(0, 0, 0, 7), 0);
        D.due("wraps", x.law(0, 0, 429496730, 0), 24);
        D.due("wraps to below 0", x.law(0, 0, 214748364, 0), 0);
        D.due("wraps by c", x.law(0, 0, 0, 1431655765), 21);
        D.due("law(1, 2, 1, 7)", x.law(1, 2, 1, 7), 40);
        D.due("held at 99", x.law(1, 5, 3, 0), 99);
        D.due("held at 0", x.law(1, -1, 0, 0), 0);
        D.due("wraps", x.law(1, 0, 214748365, 0), 4);
        D.due("law(2, ..)", x.law(2, 0, 0, 0), BEYOND);
        D.due("law(-1, ..)", x.law(-1, 0, 0, 0), BEYOND);
    }

    private static void lawWithText() {
        Object[] dues = {
            "7+2*3", 13, "20-5-4", 11, "100/7/2", 7, "17%5*3", 6, "7/0", 0, "7%0", 0, "(0-7)/2+10", 7, "(0-7)%3+10", 9, "7/(0-2)+10", 7,
            "3<5", 1, "5<3", 0, "4<4", 0, "4=4", 1, "4=5", 0, "4>4", 0, "5>4", 1, "1|0&0", 1, "7&9", 1, "0|9", 1, "0&9", 0, "0|0", 0, "!7", 0, "!0", 1,
            "!!7", 1, "!0+5", 6, "2<1+5", 1, "1<2&3>2", 1, "(2)", 2, "9999", 99, "0-1", 0, "0070", 70, "100", 99, "99", 99, "1000*1000*1000*3<0", 1,
            "5-(3-1)", 3, "2*(3+4)", 14, "20/(2*5)", 2, "1+(2>1)", 2, "(0-2)&1", 1, "l", 5, "o", 6, "a", 7, "l*o+a", 37, "a-o-l+40", 36, "!(l-5)", 1,
            "0-(0-9999*9999*9999)<0", 1, "(0-8192*8192*32)/(0-1)<0", 1, "(0-8192*8192*32)%(0-1)", 0, "3+4=7", 1, "1=0|1", 1, "2>1&0|1", 1,
        };
        for (int i = 0; i < dues.length; i += 2) {
            ElevenYoghurts x = new ElevenYoghurts();
            write(x, (String) dues[i]);
            D.due("text(0) of " + dues[i], x.text(0), 1);
            D.due("law of " + dues[i], x.law(0, 5, 6, 7), (Integer) dues[i + 1]);
        }
        ElevenYoghurts x = new ElevenYoghurts();
        write(x, "l*9+s*3+o");
        D.due("text(1)", x.text(1), 1);
        D.due("NAMES in order", x.law(1, 4, 5, 6), 57);
        D.due("any ints", x.law(1, Integer.MIN_VALUE, Integer.MAX_VALUE, 1), 0);
        D.due("law(1, MIN, MAX, 1)", x.law(1, 0, 1431655766, 0), 2);
    }
}
