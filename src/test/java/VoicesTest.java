/** Promises 30 and 31. */
public final class VoicesTest {
    private static final int BEYOND = -1000000001;
    private static final int NONE = -1000000002;
    private static final int PARTED = -1000000006;
    private static final Due D = new Due("VoicesTest");

    public static void main(String[] args) {
        ElevenYoghurts x = new ElevenYoghurts();
        int[] kms = {3, 14, 22, 39, 47, 51, 68};
        for (int km : kms) x.person(km);
        said(x, 0, 0, 5, 5, 10);
        said(x, 0, 1, 5, 10, 11, 10);
        said(x, 0, 2, 5, 7, 12, 11, 10);
        said(x, 0, 3, 7, 2, 13);
        said(x, 0, 3, -7, -2, 13);
        said(x, 1, 0, 5, 2, 20, 10);
        said(x, 1, 1, 5, 4, 11, 20, 10);
        said(x, 1, 2, 5, 0, 12, 11, 20, 10);
        said(x, 1, 3, 7, 2 - 4, 21, 13, 11, 20, 10);
        said(x, 2, 0, 5, 7, 10);
        said(x, 2, 1, 5, -14, 30, 11, 10);
        said(x, 2, 2, 5, -16, 12, 30, 11, 10);
        said(x, 3, 2, -7, -9, 40, 12, 11, 10);
        said(x, 3, 2, 8, 5, 40, 12, 11, 10);
        said(x, 3, 3, 13, 2, 13);
        said(x, 4, 0, 5, 15, 50, 20, 10);
        said(x, 4, 1, 5, 30, 11, 50, 20, 10);
        said(x, 4, 2, 5, 23 ^ 4, 51, 12, 11, 50, 20, 10);
        said(x, 4, 3, 7, 2 + 6, 21, 13, 11, 50, 20, 10);
        said(x, 5, 0, 5, 10, 10);
        said(x, 5, 1, 5, -22, 60, 30, 11, 10);
        said(x, 5, 2, 5, -23, 12, 60, 30, 11, 10);
        said(x, 5, 3, -9, 2, 13);
        said(x, 6, 0, 100, 9, 70);
        said(x, 6, 1, 100, 26, 71, 11, 70);
        said(x, 6, 2, 100, 18, 12, 71, 11, 70);
        said(x, 6, 3, 9, 4, 13);
        wraps(x);
        parted();
        wrong(x);
        D.finish();
    }

    private static void said(ElevenYoghurts x, int person, int voice, int number, int want, int... trace) {
        String call = "voice(" + person + ", " + voice + ", " + number + ")";
        D.due(call, x.voice(person, voice, number), want);
        D.due(call + ": BODIES", x.count(9), trace.length);
        for (int i = 0; i < trace.length; i++) D.due(call + ": body(" + i + ")", x.body(i), trace[i]);
        D.due(call + ": no more", x.body(trace.length), NONE);
    }

    private static void wraps(ElevenYoghurts x) {
        said(x, 3, 0, Integer.MAX_VALUE, Integer.MIN_VALUE + 2, 10);
        said(x, 0, 1, Integer.MIN_VALUE, 0, 11, 10);
        x.become(1, 0);
        said(x, 1, 3, Integer.MIN_VALUE, Integer.MIN_VALUE, 13);
        x.become(1, 14);
        said(x, 5, 1, Integer.MAX_VALUE, -10, 60, 30, 11, 10);
    }

    private static void parted() {
        ElevenYoghurts x = new ElevenYoghurts();
        x.person(0);
        x.person(11);
        x.person(0);
        x.person(23);
        x.person(44);
        x.person(55);
        x.person(66);
        said(x, 0, 3, 8, PARTED, 13);
        D.due("told(6)", x.told(6), 1);
        said(x, 2, 1, 8, 20, 11, 10);
        said(x, 1, 3, 8, PARTED, 21, 13);
        said(x, 3, 3, 8, PARTED, 13);
        said(x, 4, 3, 8, PARTED, 21, 13);
        said(x, 5, 3, 0, PARTED, 13);
        said(x, 6, 3, Integer.MIN_VALUE, PARTED, 13);
        D.due("told(6)", x.told(6), 6);
        D.due("BEYOND begins no BODY", x.voice(1, 4, 8), BEYOND);
        D.due("THE TRACE stays", x.count(9), 1);
        D.due("THE TRACE stays", x.body(0), 13);
        said(x, 2, 3, 8, -4, 13);
        said(x, 1, 2, 8, 9, 12, 11, 20, 10);
        said(x, 0, 0, PARTED, PARTED, 10);
        D.due("no ERROR, though it looks so", x.told(6), 6);
        int beyond = x.told(1);
        said(x, 0, 0, BEYOND, BEYOND, 10);
        D.due("no ERROR, though it looks so", x.told(1), beyond);
    }

    private static void wrong(ElevenYoghurts x) {
        said(x, 6, 1, 0, 26, 71, 11, 70);
        D.due("voice(7, 0, 0)", x.voice(7, 0, 0), BEYOND);
        D.due("voice(-1, 0, 0)", x.voice(-1, 0, 0), BEYOND);
        D.due("voice(0, 4, 0)", x.voice(0, 4, 0), BEYOND);
        D.due("voice(0, -1, 0)", x.voice(0, -1, 0), BEYOND);
        D.due("THE TRACE stays", x.body(0), 71);
        D.due("body(-1)", x.body(-1), NONE);
        D.due("body(3)", x.body(3), NONE);
        D.due("body(30)", x.body(30), NONE);
        D.due("body(MIN)", x.body(Integer.MIN_VALUE), NONE);
        D.due("body(MAX)", x.body(Integer.MAX_VALUE), NONE);
        D.due("count(9)", x.count(9), 3);
    }
}
