/** Promises 32 to 36. */
public final class SheetsTest {
    private static final int BEYOND = -1000000001;
    private static final int NONE = -1000000002;
    private static final int STATE = -1000000003;
    private static final int KIND = -1000000005;
    private static final Due D = new Due("SheetsTest");

    public static void main(String[] args) {
        sheet();
        put();
        putBits();
        move();
        moveWithin();
        labels();
        judge();
        judgeNothing();
        judgeLate();
        D.finish();
    }

    /** A new object with 10 THINGS of one, LABEL 2 each. */
    private static ElevenYoghurts withThings() {
        ElevenYoghurts x = new ElevenYoghurts();
        x.person(0);
        for (int t = 0; t < 10; t++) x.thing(0, 2, 0, 0);
        return x;
    }

    private static void sheet() {
        ElevenYoghurts x = withThings();
        D.due("sheet(-1, 8, 1)", x.sheet(-1, 8, 1), BEYOND);
        D.due("sheet(4, 8, 1)", x.sheet(4, 8, 1), BEYOND);
        D.due("sheet(0, 7, 1)", x.sheet(0, 7, 1), BEYOND);
        D.due("sheet(0, 64, 1)", x.sheet(0, 64, 1), BEYOND);
        D.due("sheet(0, -8, 1)", x.sheet(0, -8, 1), BEYOND);
        D.due("sheet(0, 8, 25)", x.sheet(0, 8, 25), BEYOND);
        D.due("sheet(0, 8, -1)", x.sheet(0, 8, -1), STATE);
        D.due("sheet(0, 32, MIN)", x.sheet(0, 32, Integer.MIN_VALUE), STATE);
        D.due("sheet(4, 8, -1)", x.sheet(4, 8, -1), BEYOND);
        D.due("sheet(0, 9, -1)", x.sheet(0, 9, -1), BEYOND);
        D.due("none is there yet", x.put(0, 0, 0), NONE);
        D.due("sheet(0, 8, 24)", x.sheet(0, 8, 24), 1);
        D.due("put(0, 23, 1)", x.put(0, 23, 1), 1);
        D.due("put(0, 24, 1)", x.put(0, 24, 1), BEYOND);
        D.due("all 0: labels(0)", x.labels(0), 10);
        D.due("all 0", x.thingIs(0, 1), 0);
        x.put(0, 0, 2);
        D.due("anew: sheet(0, 8, 2)", x.sheet(0, 8, 2), 1);
        D.due("labels(0)", x.labels(0), 2);
        D.due("all 0 anew", x.thingIs(0, 1), 0);
        D.due("an ERROR changes nothing", x.sheet(0, 8, 25), BEYOND);
        D.due("labels(0)", x.labels(0), 2);
        D.due("sheet(0, 0, -5)", x.sheet(0, 0, -5), 1);
        D.due("missing", x.labels(0), NONE);
        D.due("sheet(0, 0, 99)", x.sheet(0, 0, 99), 1);
        D.due("sheet(0, 32, 0)", x.sheet(0, 32, 0), 1);
        D.due("no number, but not missing", x.labels(0), 0);
        D.due("the others are missing", x.labels(1), NONE);
    }

    private static void put() {
        ElevenYoghurts x = withThings();
        D.due("put(4, 0, 0)", x.put(4, 0, 0), BEYOND);
        D.due("put(-1, 0, 0)", x.put(-1, 0, 0), BEYOND);
        D.due("put(2, 99, 0), missing", x.put(2, 99, 0), NONE);
        x.sheet(2, 16, 3);
        D.due("put(2, 3, 0)", x.put(2, 3, 0), BEYOND);
        D.due("put(2, -1, 0)", x.put(2, -1, 0), BEYOND);
        D.due("put(2, MAX, 0)", x.put(2, Integer.MAX_VALUE, 0), BEYOND);
        D.due("put(2, 1, 1)", x.put(2, 1, 1), 1);
        D.due("put(2, 2, 2)", x.put(2, 2, 2), 1);
        D.due("labels(2)", x.labels(2), 3);
        for (int t = 0; t < 4; t++) D.due("LABEL " + t, x.thingIs(t, 1), Math.min(t, 2));
    }

    private static void putBits() {
        int[] bits = {8, 16, 32};
        for (int b : bits) {
            ElevenYoghurts x = withThings();
            x.sheet(0, b, 2);
            x.put(0, 0, 1 + 256);
            D.due(b + " bits of 257", x.labels(0), b == 8 ? 2 : 0);
            x.put(0, 0, 1 + 65536);
            D.due(b + " bits of 65537", x.labels(0), b == 32 ? 0 : 2);
            x.put(0, 0, -255);
            D.due(b + " bits of -255", x.labels(0), b == 8 ? 2 : 0);
            x.friday(0);
            x.put(0, 0, -1);
            x.put(0, 1, -1);
            D.due(b + " bits of -1: nothing is taken", x.judge(0), 2);
            x.put(0, 0, 255);
            x.put(0, 1, 65535);
            D.due(b + " bits of 255, 65535", x.judge(0), b == 8 ? 2 : 0);
            x.put(0, 0, 65535);
            D.due(b + " bits of 65535", x.judge(0), b == 32 ? 0 : 2);
            x.put(0, 0, Integer.MAX_VALUE);
            D.due(b + " bits of MAX", x.judge(0), b == 32 ? 0 : 2);
        }
    }

    private static void move() {
        ElevenYoghurts x = withThings();
        D.due("move(4, 0, 0, 0, 0)", x.move(4, 0, 0, 0, 0), BEYOND);
        D.due("move(0, 0, 4, 0, 0)", x.move(0, 0, 4, 0, 0), BEYOND);
        D.due("move(0, 0, -1, 0, 0)", x.move(0, 0, -1, 0, 0), BEYOND);
        D.due("both missing", x.move(0, 0, 1, 0, 0), NONE);
        x.sheet(0, 8, 4);
        D.due("one missing", x.move(0, 0, 1, 0, 0), NONE);
        D.due("the other missing", x.move(1, 0, 0, 0, 0), NONE);
        D.due("no such one ahead of a missing one", x.move(1, 0, 4, 0, 0), BEYOND);
        x.sheet(1, 16, 4);
        x.sheet(2, 8, 3);
        D.due("unlike bits", x.move(0, 0, 1, 0, 1), KIND);
        D.due("unlike bits ahead of BEYOND", x.move(0, -1, 1, 9, -9), KIND);
        D.due("n -1", x.move(0, 0, 2, 0, -1), BEYOND);
        D.due("i -1", x.move(0, -1, 2, 0, 1), BEYOND);
        D.due("j -1", x.move(0, 0, 2, -1, 1), BEYOND);
        D.due("4 from 1", x.move(0, 1, 0, 0, 4), BEYOND);
        D.due("4 to 3", x.move(0, 0, 2, 0, 4), BEYOND);
        D.due("3 to number 1", x.move(0, 0, 2, 1, 3), BEYOND);
        D.due("MAX from 1", x.move(0, 1, 2, 1, Integer.MAX_VALUE), BEYOND);
        D.due("1 from MAX", x.move(0, Integer.MAX_VALUE, 2, 0, 1), BEYOND);
        D.due("0 from 5", x.move(0, 5, 2, 0, 0), BEYOND);
        D.due("0 from 4 to 3", x.move(0, 4, 2, 3, 0), 0);
        x.put(0, 1, 1);
        x.put(0, 2, 2);
        D.due("2 from 1 to 1", x.move(0, 1, 2, 1, 2), 2);
        D.due("labels(2)", x.labels(2), 3);
        D.due("LABEL 0", x.thingIs(0, 1), 0);
        D.due("LABEL 1", x.thingIs(1, 1), 1);
        D.due("LABEL 2", x.thingIs(2, 1), 2);
        D.due("the first is as it was", x.labels(0), 4);
        D.due("LABEL 1", x.thingIs(1, 1), 1);
    }

    private static void moveWithin() {
        for (int to = 0; to < 2; to++) {
            ElevenYoghurts x = withThings();
            x.sheet(3, 32, 5);
            int[] were = {1, 2, 0, 2, 1};
            for (int i = 0; i < 5; i++) x.put(3, i, were[i]);
            D.due("within", x.move(3, 1 - to, 3, to, 4), 4);
            D.due("labels(3)", x.labels(3), 5);
            int[] due = to == 1 ? new int[] {1, 1, 2, 0, 2} : new int[] {2, 0, 2, 1, 1};
            for (int i = 0; i < 5; i++) D.due("as they all were: " + to + i, x.thingIs(i, 1), due[i]);
        }
    }

    private static void labels() {
        ElevenYoghurts x = new ElevenYoghurts();
        x.person(0);
        D.due("labels(4)", x.labels(4), BEYOND);
        D.due("labels(-1)", x.labels(-1), BEYOND);
        D.due("labels(0)", x.labels(0), NONE);
        x.sheet(0, 8, 5);
        D.due("no THINGS", x.labels(0), 0);
        for (int t = 0; t < 3; t++) x.thing(0, 1, 0, 9 * (t % 2));
        x.friday(9);
        x.put(0, 0, 2);
        x.put(0, 1, 2);
        D.due("three THINGS", x.labels(0), 3);
        D.due("LABEL 0", x.thingIs(0, 1), 2);
        D.due("LABEL 1, gone", x.thingIs(1, 1), 2);
        D.due("LABEL 2", x.thingIs(2, 1), 0);
        x.put(0, 0, 1);
        x.put(0, 1, 3);
        x.put(0, 2, 1);
        D.due("up to 3", x.labels(0), 1);
        D.due("LABEL 0", x.thingIs(0, 1), 1);
        D.due("LABEL 1 stays", x.thingIs(1, 1), 2);
        D.due("LABEL 2 stays", x.thingIs(2, 1), 0);
        x.put(0, 0, -1);
        D.due("up to -1", x.labels(0), 0);
        D.due("no ERROR", x.told(1) * 10 + x.told(2), 21);
    }

    private static void judge() {
        ElevenYoghurts x = new ElevenYoghurts();
        x.person(30);
        x.person(0);
        x.thing(1, 0, 1, 0);
        x.thing(1, 0, 0, 0);
        x.thing(1, 2, 0, 0);
        D.due("judge(4)", x.judge(4), BEYOND);
        D.due("judge(-1)", x.judge(-1), BEYOND);
        D.due("judge(0)", x.judge(0), NONE);
        x.sheet(0, 8, 4);
        // Draws: 0 not SEEN takes 0; 0 SEEN takes none; 1 not SEEN eats 1; 0 not SEEN takes none (20 less 20).
        int[] taken = {0, -1, 1, -1};
        for (int wrong = 0; wrong < 4; wrong++) {
            for (int i = 0; i < 4; i++) x.put(0, i, i == wrong ? 5 : taken[i]);
            D.due("the first wrong is " + wrong, x.judge(0), wrong);
        }
        x.put(0, 3, -1);
        D.due("all right", x.judge(0), 4);
        D.due("once more, for nothing changes", x.judge(0), 4);
        D.due("z", x.count(10), 1);
        D.due("count(2)", x.count(2), 3);
        x.sheet(1, 8, 0);
        D.due("none told", x.judge(1), 0);
    }

    private static void judgeNothing() {
        ElevenYoghurts x = new ElevenYoghurts();
        x.sheet(0, 16, 24);
        D.due("0 is not nothing", x.judge(0), 0);
        for (int i = 0; i < 24; i++) x.put(0, i, -1);
        D.due("nobody takes anything", x.judge(0), 24);
        x.put(0, 20, -2);
        D.due("-2 is not nothing", x.judge(0), 20);
    }

    private static void judgeLate() {
        ElevenYoghurts x = new ElevenYoghurts();
        x.person(0);
        for (int i = 0; i < 249; i++) x.hours(40);
        x.hours(39);
        x.thing(0, 0, 0, 0);
        x.sheet(0, 32, 2);
        x.put(0, 1, -1);
        D.due("HOUR beyond 9999, too", x.judge(0), 2);
        D.due("HOUR", x.count(3), 9999);
        D.due("lost(1, 1)", x.lost(1, 1), 0);
    }
}
