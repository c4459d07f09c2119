/** Promises 37 to 42. */
public final class ImagesTest {
    private static final int BEYOND = -1000000001;
    private static final int NONE = -1000000002;
    private static final int FULL = -1000000004;
    private static final Due D = new Due("ImagesTest");

    public static void main(String[] args) {
        imageOfAll();
        imageStays();
        countsComeBack();
        placesAreNewAgain();
        tell();
        check();
        count();
        told();
        eachErrorIsTold();
        D.finish();
    }

    private static ElevenYoghurts some() {
        ElevenYoghurts x = new ElevenYoghurts();
        x.person(31);
        x.person(42);
        x.feel(0, 0, 50);
        x.feel(0, 1, 5);
        x.feel(0, 2, 1);
        x.thing(1, 1, 2, 3);
        x.thing(0, 2, 1, 0);
        x.mark(1, 3, 1);
        TextsTest.write(x, "l+o+a");
        x.text(0);
        TextsTest.write(x, "s*5");
        x.text(1);
        TextsTest.write(x, "o+7");
        x.tell(50);
        x.tell(10);
        return x;
    }

    private static void imageOfAll() {
        ElevenYoghurts x = some();
        x.hours(2);
        x.friday(9);
        x.feel(0, 0, 50);
        x.feel(1, 0, 10);
        long before = sum(x);
        D.due("restore() ahead of any IMAGE", x.restore(), NONE);
        D.due("image()", x.image(), 1);
        x.become(0, 60);
        x.feel(1, 0, 77);
        x.feel(1, 1, 8);
        x.feel(0, 2, -1);
        x.person(0);
        x.mark(0, 0, 0);
        x.mark(1, 3, 0);
        x.mark(1, 1, 3);
        x.thing(2, 0, 0, 9);
        x.untell(0);
        TextsTest.write(x, "+1");
        x.text(1);
        TextsTest.write(x, "9");
        x.check();
        x.tell(3);
        x.friday(1);
        x.comes(1, 0);
        x.hours(20);
        x.seed(4);
        D.due("restore()", x.restore(), 2);
        D.due("all is as it was", sum(x), before);
        D.due("APPEAL by its TEXT", x.law(0, 1, 2, 3), 6);
        D.due("GUARD by its TEXT", x.law(1, 1, 2, 3), 10);
        D.due("THE TAPE", x.text(0), 1);
        D.due("o+7", x.law(0, 1, 2, 3), 9);
        D.due("what waits", x.check(), 0);
    }

    private static long sum(ElevenYoghurts x) {
        long sum = 0;
        for (int what = 0; what <= 10; what++) sum = sum * 31 + x.count(what);
        for (int p = 0; p < x.count(0); p++) for (int what = 0; what < 6; what++) sum = sum * 31 + x.personIs(p, what);
        for (int t = 0; t < x.count(1); t++) for (int what = 0; what < 8; what++) sum = sum * 31 + x.thingIs(t, what);
        return sum;
    }

    private static void imageStays() {
        ElevenYoghurts x = some();
        x.sheet(0, 8, 2);
        x.image();
        x.voice(0, 0, 1);
        x.sheet(0, 8, 3);
        x.sheet(1, 16, 1);
        x.person(99);
        x.feel(0, 0, 1);
        D.due("restore()", x.restore(), 0);
        D.due("HUNGER", x.personIs(0, 2), 50);
        D.due("a SHEET is not of it", x.put(0, 2, 0), 1);
        D.due("nor a new one", x.put(1, 0, 0), 1);
        D.due("nor THE TRACE", x.count(9), 1);
        D.due("nor what told() tells", x.told(1), 1);
        x.feel(0, 0, 2);
        D.due("restore() again", x.restore(), 0);
        D.due("HUNGER", x.personIs(0, 2), 50);
        x.hours(7);
        D.due("nor how often", x.image(), 2);
        x.hours(7);
        D.due("in place of the one ahead", x.restore(), 7);
        D.due("a third", x.image(), 3);
        D.due("restore()", x.restore(), 7);
    }

    private static void countsComeBack() {
        ElevenYoghurts x = new ElevenYoghurts();
        x.person(30);
        x.person(60);
        x.thing(0, 0, 0, 0);
        x.thing(1, 0, 0, 0);
        for (int turn = 0; turn < 2; turn++) {
            x.comes(0, 0);
            x.comes(0, 0);
            x.anew(0);
            x.comes(1, 0);
            x.anew(0);
            x.anew(1);
            if (turn == 0) x.image();
        }
        D.due("all are 2", x.count(4) * 100 + x.count(5) * 10 + x.count(6), 222);
        x.restore();
        D.due("all are 1", x.count(4) * 100 + x.count(5) * 10 + x.count(6), 111);
    }

    /** Whoever comes anew after a restore() has nothing of one whom the IMAGE doesn't know. */
    private static void placesAreNewAgain() {
        ElevenYoghurts x = new ElevenYoghurts();
        x.person(0);
        x.image();
        x.person(69);
        x.feel(1, 0, 99);
        x.feel(1, 1, 9);
        x.feel(1, 2, 0);
        x.thing(1, 2, 3, 0);
        x.mark(0, 3, 1);
        x.thing(1, 2, 3, 9);
        x.comes(1, 0);
        x.restore();
        D.due("personIs(1, 0)", x.personIs(1, 0), BEYOND);
        D.due("thingIs(0, 0)", x.thingIs(0, 0), BEYOND);
        D.due("feel(0, 2, 1)", x.feel(0, 2, 1), BEYOND);
        D.due("person(10)", x.person(10), 1);
        int[] person = {1, 0, 10, 0, -1, 0};
        for (int what = 0; what < 6; what++) D.due("personIs(1, " + what + ")", x.personIs(1, what), person[what]);
        D.due("thing(0, 0, 0, 0)", x.thing(0, 0, 0, 0), 0);
        D.due("thing(0, 0, 0, 0)", x.thing(0, 0, 0, 0), 1);
        int[] thing = {0, 0, 0, 0, 1, -1, 0, 20};
        for (int t = 0; t < 2; t++) for (int what = 0; what < 8; what++) D.due("thingIs(" + t + ", " + what + ")", x.thingIs(t, what), thing[what]);
    }

    private static void tell() {
        ElevenYoghurts x = new ElevenYoghurts();
        for (int i = 1; i <= 24; i++) D.due("tell", x.tell(i % 2 == 0 ? Integer.MIN_VALUE : i), i);
        D.due("the 25th", x.tell(0), FULL);
        D.due("count(8)", x.count(8), 24);
        D.due("check()", x.check(), 1);
        D.due("none waits then", x.count(8), 0);
        D.due("tell(5)", x.tell(5), 1);
    }

    private static void check() {
        ElevenYoghurts x = new ElevenYoghurts();
        D.due("none waits", x.check(), 0);
        x.tell(10);
        D.due("there is nobody", x.check(), 1);
        x.person(0);
        x.person(0);
        x.person(0);
        x.feel(1, 0, 20);
        x.tell(10);
        D.due("one is so", x.check(), 0);
        x.tell(10);
        x.tell(20);
        x.tell(10);
        D.due("three are so", x.check(), 0);
        x.tell(10);
        x.tell(21);
        x.tell(11);
        D.due("the second isn't", x.check(), 2);
        D.due("none waits then", x.check(), 0);
        x.tell(11);
        D.due("the first isn't", x.check(), 1);
        x.tell(10);
        x.tell(20);
        x.tell(10);
        x.tell(10);
        D.due("there is no fourth", x.check(), 4);
    }

    private static void count() {
        ElevenYoghurts x = some();
        x.friday(3);
        int[] due = {2, 2, 1, 0, 0, 0, 1, 3, 2, 0, 1};
        for (int what = 0; what <= 10; what++) D.due("count(" + what + ")", x.count(what), due[what]);
        D.due("count(11)", x.count(11), BEYOND);
        D.due("count(-1)", x.count(-1), BEYOND);
        D.due("count(MIN)", x.count(Integer.MIN_VALUE), BEYOND);
        x.mark(1, 3, 0);
        x.comes(1, 0);
        x.anew(0);
        x.anew(1);
        x.comes(1, 1);
        x.hours(1);
        x.voice(1, 3, 2);
        D.due("HOUR", x.count(3), 1);
        D.due("STOLEN and EATEN", x.count(4) + x.count(5), 3);
        D.due("BODIES", x.count(9), 6);
        D.due("z", x.count(10), -1770082073);
    }

    private static void told() {
        ElevenYoghurts x = new ElevenYoghurts();
        D.due("told(0)", x.told(0), BEYOND);
        D.due("counted, too", x.told(1), 1);
        D.due("told(7)", x.told(7), BEYOND);
        D.due("told(-1)", x.told(-1), BEYOND);
        D.due("told(MIN)", x.told(Integer.MIN_VALUE), BEYOND);
        D.due("told(MAX)", x.told(Integer.MAX_VALUE), BEYOND);
        D.due("counted, too", x.told(1), 5);
        for (int k = 2; k <= 6; k++) D.due("told(" + k + ")", x.told(k), 0);
    }

    private static void eachErrorIsTold() {
        ElevenYoghurts x = some();
        for (int i = 0; i < 24; i++) x.tell(0);
        x.oldest();
        x.restore();
        x.body(5);
        x.hours(0);
        x.sheet(0, 8, -1);
        x.anew(0);
        x.as(0, 4);
        x.become(0, 30);
        x.voice(0, 3, 1);
        int[] due = {1, 2, 2, 2, 1, 1};
        for (int k = 1; k <= 6; k++) D.due("told(" + k + ")", x.told(k), due[k - 1]);
    }
}
