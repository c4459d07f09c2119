/** Promises 21 to 29: what is only thought, and that nothing of it stays. */
public final class WouldBeTest {
    private static final int BEYOND = -1000000001;
    private static final int NONE = -1000000002;
    private static final int STATE = -1000000003;
    private static final Due D = new Due("WouldBeTest");

    public static void main(String[] args) {
        wants();
        trap();
        safest();
        safestByTexts();
        lock();
        lockStepByStep();
        lockCleaner();
        round();
        fullHouse();
        odds();
        who();
        whoChanges();
        lost();
        oldest();
        nothingStays();
        D.finish();
    }

    private static void wants() {
        ElevenYoghurts x = new ElevenYoghurts();
        x.person(10);
        x.person(0);
        x.thing(1, 0, 2, 0);
        x.thing(1, 2, 2, 0);
        x.thing(0, 2, 0, 0);
        D.due("his own", x.wants(0, 0, 0), 2);
        D.due("his own without GUARD", x.wants(0, 0, 1), 60);
        D.due("his own, SEEN", x.wants(0, 1, 1), 60);
        x.mark(2, 3, 1);
        D.due("another's", x.wants(0, 0, 0), 0);
        D.due("40 and 5 less 20", x.wants(0, 0, 1), 25);
        D.due("another's, SEEN", x.wants(0, 1, 0), 0);
        D.due("less 20", x.wants(0, 1, 1), 5);
        x.mark(0, 3, 1);
        D.due("with a note", x.wants(0, 0, 0), 1);
        D.due("25 less 20", x.wants(0, 0, 1), 5);
        D.due("with a note, SEEN", x.wants(0, 1, 0), -1);
        D.due("none", x.wants(0, 1, 1), 0);
        x.feel(0, 0, 0);
        D.due("20 less 20 isn't above 0", x.wants(0, 0, 0), -1);
        x.feel(0, 0, 10);
        x.mark(0, 3, 0);
        x.mark(1, 0, 0);
        D.due("of two alike the least", x.wants(0, 0, 0), 0);
        x.mark(1, 1, 3);
        D.due("the greater", x.wants(0, 0, 0), 1);
        x.friday(0);
        D.due("none in THE FRIDGE", x.wants(0, 0, 0), -1);
        D.due("none in THE FRIDGE", x.wants(0, 0, 1), 0);
        D.due("wants(2, 0, 0)", x.wants(2, 0, 0), BEYOND);
        D.due("wants(-1, 0, 0)", x.wants(-1, 0, 0), BEYOND);
        D.due("wants(0, 2, 0)", x.wants(0, 2, 0), BEYOND);
        D.due("wants(0, -1, 0)", x.wants(0, -1, 0), BEYOND);
        D.due("wants(0, 0, 2)", x.wants(0, 0, 2), BEYOND);
        D.due("wants(0, 0, -1)", x.wants(0, 0, -1), BEYOND);
    }

    private static void trap() {
        ElevenYoghurts x = new ElevenYoghurts();
        x.person(0);
        x.person(10);
        x.person(30);
        x.person(0);
        x.person(69);
        x.thing(3, 0, 2, 0);
        D.due("not SEEN: 1, 2, and its OWNER", x.trap(0, 0), 2 + 4 + 8);
        x.mark(0, 0, 1);
        D.due("a name, SEEN: 2 by 40 less 30", x.trap(0, 1), 4 + 8);
        x.mark(0, 0, 2);
        D.due("a note, SEEN", x.trap(0, 1), 8);
        x.mark(0, 2, 9);
        x.mark(0, 0, 0);
        D.due("AGE 9: the CLEANER", x.trap(0, 1), 8 + 16);
        x.mark(0, 3, 1);
        D.due("LOCKED", x.trap(0, 0), 0);
        x.mark(0, 3, 0);
        x.friday(0);
        D.due("gone", x.trap(0, 0), 0);
        D.due("trap(1, 0)", x.trap(1, 0), BEYOND);
        D.due("trap(-1, 0)", x.trap(-1, 0), BEYOND);
        D.due("trap(0, 2)", x.trap(0, 2), BEYOND);
        D.due("trap(0, -1)", x.trap(0, -1), BEYOND);
    }

    /** A THING of 2 that two TAKERS want by 40 and half their HUNGER less 20. */
    private static int safestFor(int hunger0, int hunger1, int label) {
        ElevenYoghurts x = new ElevenYoghurts();
        x.person(10);
        x.person(10);
        x.person(0);
        x.thing(2, label, 2, 0);
        x.feel(0, 0, hunger0);
        x.feel(1, 0, hunger1);
        int safest = x.safest(0);
        D.due("LABEL stays", x.thingIs(0, 1), label);
        return safest;
    }

    private static void safest() {
        D.due("35 and 25: 4, 3, 2 (who wants it SEEN and not counts twice)", safestFor(30, 10, 0), 2);
        D.due("25 and 15: 3, 1, 1", safestFor(10, 0, 0), 2);
        D.due("20 and 20: 2, 2, 0", safestFor(0, 0, 2), 2);
        D.due("25 and 25: 4, 2, 2", safestFor(10, 10, 2), 1);
        D.due("60 and 60: 4, 4, 4", safestFor(99, 99, 2), 0);
        ElevenYoghurts x = new ElevenYoghurts();
        x.person(30);
        x.thing(0, 2, 3, 0);
        TextsTest.write(x, "1+(l=0)*30");
        x.text(0);
        x.thing(0, 0, 3, 0);
        D.due("its OWNER doesn't matter, though he wants it by LABEL 0 alone", x.safest(0), 0);
        x.untell(0);
        x.mark(1, 3, 1);
        x.become(0, 10);
        D.due("none but its OWNER", x.safest(0), 0);
        x.person(30);
        D.due("MISTAKEN: 50 less 10, 20, 20, 30, ..", x.safest(0), 0);
        x.mark(0, 3, 1);
        D.due("LOCKED", x.safest(0), 0);
        D.due("safest(2)", x.safest(2), BEYOND);
        D.due("safest(-1)", x.safest(-1), BEYOND);
        x.friday(0);
        D.due("gone", x.safest(0), STATE);
    }

    private static void safestByTexts() {
        ElevenYoghurts x = new ElevenYoghurts();
        x.person(30);
        x.person(0);
        x.thing(1, 0, 0, 0);
        TextsTest.write(x, "l=0|l=2");
        x.text(0);
        TextsTest.write(x, "0");
        x.text(1);
        D.due("a LABEL without APPEAL", x.safest(0), 1);
        TextsTest.write(x, "!l*3+l");
        x.text(1);
        TextsTest.write(x, "2");
        x.text(0);
        D.due("a LABEL that guards by missing", x.safest(0), 0);
    }

    private static void lock() {
        ElevenYoghurts x = new ElevenYoghurts();
        x.person(10);
        x.person(0);
        x.thing(0, 0, 0, 0);
        x.thing(1, 0, 2, 0);
        x.thing(1, 0, 3, 0);
        D.due("each his own", x.lock(0), 0);
        D.due("each his own", x.lock(1), 0);
        x.mark(0, 3, 1);
        D.due("both that tempt", x.lock(0), 2);
        D.due("both that tempt", x.lock(1), 6);
        x.mark(2, 3, 1);
        D.due("one is LOCKED", x.lock(0), 1);
        D.due("one is LOCKED", x.lock(1), 2);
        x.mark(1, 0, 2);
        x.feel(0, 0, 0);
        D.due("GUARD is enough", x.lock(1), 0);
        D.due("LOCKED stays", x.thingIs(1, 6), 0);
        x.friday(0);
        D.due("an empty FRIDGE", x.lock(0), 0);
        D.due("lock(2)", x.lock(2), BEYOND);
        D.due("lock(-1)", x.lock(-1), BEYOND);
    }

    /** 2 wants 0's THING, and 0 wants 1's THING only when his own is LOCKED. */
    private static void lockStepByStep() {
        ElevenYoghurts x = new ElevenYoghurts();
        x.person(50);
        x.person(0);
        x.person(50);
        x.thing(1, 0, 2, 0);
        x.thing(0, 0, 2, 0);
        for (int p = 0; p < 3; p += 2) x.feel(p, 1, 1);
        x.feel(0, 2, 1);
        D.due("each his own", x.lock(1), 0);
        x.feel(2, 2, 0);
        D.due("one more, what it shields", x.lock(0), 2);
        D.due("one more, what it shields", x.lock(1), 3);
        x.thing(0, 0, 0, 0);
        x.mark(1, 3, 1);
        x.mark(2, 3, 1);
        D.due("his own are LOCKED", x.lock(1), 1);
        x.mark(2, 3, 0);
        x.feel(2, 2, -1);
        D.due("one of his own shields", x.lock(1), 0);
    }

    private static void lockCleaner() {
        ElevenYoghurts x = new ElevenYoghurts();
        x.person(65);
        x.person(0);
        x.thing(1, 0, 0, 5);
        x.thing(1, 2, 0, 4);
        x.thing(1, 2, 0, 9);
        D.due("a CLEANER likewise", x.lock(1), 5);
        D.due("a CLEANER likewise", x.lock(0), 2);
        x.thing(0, 0, 0, 5);
        D.due("a CLEANER's own comes first, without GUARD, but for what is alike", x.lock(1), 1);
    }

    /** JUST 0 suspects 1, 1 suspects 2, 2 suspects 1, 4 suspects 3, 5 suspects 4; all ROBBED 9 times. */
    private static void round() {
        ElevenYoghurts x = new ElevenYoghurts();
        int[] suspects = {1, 2, 1, -1, 3, 4};
        for (int p = 0; p < 6; p++) x.person(p == 3 ? 0 : 50);
        for (int p = 0; p < 6; p++) {
            x.thing(p, 0, 0, 0);
            x.feel(p, 1, 9);
            x.feel(p, 2, suspects[p]);
        }
        x.mark(0, 3, 1);
        int[][] due = {{1, 2}, {0, 2}, {0, 2}, {0, 0}, {1, 0}, {2, 0}};
        for (int p = 0; p < 6; p++) {
            D.due("round(" + p + ", 0)", x.round(p, 0), due[p][0]);
            D.due("round(" + p + ", 1)", x.round(p, 1), due[p][1]);
        }
        x.feel(2, 2, 0);
        x.mark(0, 3, 0);
        D.due("a ring of three", x.round(0, 1), 3);
        D.due("nobody ahead of it", x.round(2, 0), 0);
        x.become(3, 50);
        x.feel(3, 2, 0);
        D.due("three ahead of a ring", x.round(5, 0), 3);
        D.due("three ahead of a ring", x.round(5, 1), 3);
        x.become(3, 60);
        D.due("a CLEANER takes the least of his wants", x.round(5, 0), 3);
        x.mark(3, 3, 1);
        D.due("a CLEANER robs, too: 3 robs 0", x.round(3, 1), 3);
        D.due("4 wants his own then", x.round(4, 0), 0);
        D.due("round(6, 0)", x.round(6, 0), BEYOND);
        D.due("round(-1, 0)", x.round(-1, 0), BEYOND);
        D.due("round(0, 2)", x.round(0, 2), BEYOND);
        D.due("round(0, -1)", x.round(0, -1), BEYOND);
    }

    /** Eight JUST, each suspecting the next, the last one the first; ten THINGS. */
    private static void fullHouse() {
        ElevenYoghurts x = new ElevenYoghurts();
        for (int p = 0; p < 8; p++) x.person(50);
        for (int t = 0; t < 10; t++) x.thing(t % 8, 0, 0, 0);
        for (int p = 0; p < 8; p++) {
            x.feel(p, 1, 9);
            x.feel(p, 2, (p + 1) % 8);
        }
        for (int p = 0; p < 8; p++) {
            D.due("none is ahead", x.round(p, 0), 0);
            D.due("all are of the ring", x.round(p, 1), 8);
            D.due("trap(" + p + ", 0)", x.trap(p, 0), 1 << (p + 7) % 8);
        }
        D.due("THING 8 is wanted by none", x.trap(8, 0), 0);
        D.due("all are LOCKED", x.lock(1), 1023);
        D.due("all are LOCKED", x.lock(0), 10);
        x.feel(0, 2, 7);
        D.due("a ring of two, six ahead", x.round(1, 0), 6);
        D.due("a ring of two", x.round(1, 1), 2);
        x.feel(7, 2, -1);
        D.due("six robbings", x.round(1, 0) + 10 * x.round(1, 1), 6);
        D.due("who by none", whoBy(x), 255);
        D.due("who by the last", whoBy(x, 7), 128 + 64 + 1);
        D.due("odds of the last", x.odds(7, 0) * 100 + x.odds(7, 1), 308);
        D.due("safest(7)", x.safest(7), 0);
        x.image();
        D.due("hours(40)", x.hours(40), x.lost(0, 0));
        x.restore();
        D.due("trap(7, 1)", x.trap(7, 1), 128 + 64 + 1);
        for (int p = 0; p < 8; p++) x.feel(p, 2, -1);
        D.due("eight at PEACE", x.lock(0), 0);
    }

    private static void odds(ElevenYoghurts x, String what, int thing, int above, int below) {
        D.due(what + ", above", x.odds(thing, 0), above);
        D.due(what + ", below", x.odds(thing, 1), below);
    }

    private static void odds() {
        ElevenYoghurts x = new ElevenYoghurts();
        x.person(0);
        x.thing(0, 0, 2, 0);
        odds(x, "surely", 0, 1, 1);
        x.person(10);
        odds(x, "all, SEEN or not", 0, 1, 1);
        x.feel(1, 0, 0);
        odds(x, "3 of 4", 0, 3, 4);
        x.person(0);
        odds(x, "3 of 6", 0, 1, 2);
        x.thing(2, 0, 0, 0);
        odds(x, "2 of 6", 1, 1, 3);
        x.mark(1, 3, 1);
        odds(x, "never", 1, 0, 1);
        x.person(30);
        x.person(0);
        odds(x, "5 of 10", 0, 1, 2);
        x.person(0);
        odds(x, "5 of 12", 0, 5, 12);
        x.friday(0);
        odds(x, "gone", 0, 0, 1);
        D.due("odds(2, 0)", x.odds(2, 0), BEYOND);
        D.due("odds(-1, 0)", x.odds(-1, 0), BEYOND);
        D.due("odds(0, 2)", x.odds(0, 2), BEYOND);
        D.due("odds(0, -1)", x.odds(0, -1), BEYOND);
    }

    private static void row(ElevenYoghurts x, int sheet, int... numbers) {
        x.sheet(sheet, 8, numbers.length);
        for (int i = 0; i < numbers.length; i++) x.put(sheet, i, numbers[i]);
    }

    private static int whoBy(ElevenYoghurts x, int... numbers) {
        row(x, 1, numbers);
        return x.who(1);
    }

    private static void who() {
        ElevenYoghurts x = new ElevenYoghurts();
        D.due("nobody is there", whoBy(x), 0);
        x.person(30);
        x.person(0);
        x.person(30);
        x.person(10);
        x.thing(1, 0, 1, 0);
        x.thing(1, 0, 3, 0);
        x.thing(3, 0, 2, 0);
        D.due("all, by none", whoBy(x), 15);
        D.due("the first", whoBy(x, 1), 5);
        D.due("who would go on", whoBy(x, 1, 2), 5);
        D.due("all three", whoBy(x, 1, 2, 0), 5);
        D.due("in this order", whoBy(x, 2, 0, 1), 0);
        D.due("the owner", whoBy(x, 0, 1), 2);
        D.due("his own, then by no HUNGER", whoBy(x, 2, 1), 8);
        D.due("his own, then 50 less 20, then 30 less 20", whoBy(x, 2, 1, 0), 8);
        D.due("one more than there is", whoBy(x, 1, 2, 0, 0), 0);
        D.due("nothing is no THING", whoBy(x, 0, 1, -1), 0);
        D.due("no such THING", whoBy(x, 3), 0);
        x.mark(1, 0, 2);
        D.due("a note: of two alike the least", whoBy(x, 2, 1), 0);
        x.mark(1, 3, 1);
        D.due("LOCKED", whoBy(x, 2, 0), 1 + 4 + 8);
        D.due("who(-1)", x.who(-1), BEYOND);
        D.due("who(4)", x.who(4), BEYOND);
        D.due("who(0)", x.who(0), NONE);
        x.sheet(2, 32, 1);
        x.put(2, 0, 256);
        D.due("no byte of it", x.who(2), 0);
    }

    /** What one takes changes what he wants then: an AVENGER eats, HUNGER of a TAKER ends. */
    private static void whoChanges() {
        ElevenYoghurts x = new ElevenYoghurts();
        x.person(10);
        x.person(0);
        x.thing(1, 0, 2, 0);
        x.thing(1, 2, 2, 0);
        x.feel(0, 0, 60);
        D.due("50 less 20 wants at first", x.wants(0, 0, 1), 50);
        D.due("but 20 less 20 then: the owner alone", whoBy(x, 0, 1), 2);
        D.due("just the first: both", whoBy(x, 0), 3);
        D.due("HUNGER stays", x.personIs(0, 2), 60);
        D.due("ROBBED stays", x.personIs(1, 3), 0);
    }

    private static void lost() {
        ElevenYoghurts x = new ElevenYoghurts();
        D.due("lost(0, 1)", x.lost(0, 1), 0);
        D.due("without PEOPLE", x.lost(60, 0), 0);
        x.person(30);
        x.person(0);
        x.thing(1, 0, 1, 0);
        x.thing(1, 0, 0, 0);
        x.thing(1, 2, 0, 0);
        // Draws: 0 not SEEN takes 0; 0 SEEN takes none; 1 not SEEN eats 1.
        int[][] due = {{0, 3}, {1, 2}, {1, 2}, {1, 1}};
        for (int n = 0; n < due.length; n++) {
            D.due("lost(" + n + ", 0)", x.lost(n, 0), due[n][0]);
            D.due("lost(" + n + ", 1)", x.lost(n, 1), due[n][1]);
        }
        D.due("lost(60, 1)", x.lost(60, 1), 0);
        D.due("z", x.count(10), 1);
        D.due("HOUR", x.count(3), 0);
        x.comes(0, 0);
        D.due("as counted", x.lost(0, 0), 1);
        D.due("lost(61, 0)", x.lost(61, 0), BEYOND);
        D.due("lost(-1, 0)", x.lost(-1, 0), BEYOND);
        D.due("lost(0, 2)", x.lost(0, 2), BEYOND);
        D.due("lost(0, -1)", x.lost(0, -1), BEYOND);
    }

    private static void oldest() {
        ElevenYoghurts x = new ElevenYoghurts();
        x.person(0);
        D.due("no THINGS", x.oldest(), NONE);
        x.thing(0, 0, 0, 0);
        D.due("AGE 0", x.oldest(), 0);
        x.thing(0, 0, 0, 4);
        x.thing(0, 0, 0, 3);
        x.thing(0, 0, 0, 4);
        D.due("of several the least", x.oldest(), 1);
        x.mark(1, 3, 1);
        D.due("LOCKED, too", x.oldest(), 1);
        x.mark(3, 2, 5);
        D.due("the greatest", x.oldest(), 3);
        x.friday(5);
        D.due("in THE FRIDGE", x.oldest(), 1);
        x.friday(0);
        D.due("all gone", x.oldest(), NONE);
        D.due("told(2)", x.told(2), 2);
    }

    /** After all that is thought, all is told as before. */
    private static void nothingStays() {
        ElevenYoghurts x = new ElevenYoghurts();
        int[] kms = {10, 20, 33, 47, 51, 65, 0};
        for (int km : kms) x.person(km);
        for (int t = 0; t < 10; t++) x.thing(t % 7, t % 3, t % 4, t);
        x.hours(3);
        row(x, 0, 8, 1, 2);
        long before = sum(x);
        for (int t = 0; t < 10; t++) {
            x.trap(t, 0);
            x.safest(t);
            x.odds(t, 0);
        }
        for (int p = 0; p < 7; p++) x.round(p, 0);
        x.lock(1);
        x.who(0);
        x.judge(0);
        x.lost(60, 0);
        x.oldest();
        D.due("nothing stays", sum(x), before);
    }

    private static long sum(ElevenYoghurts x) {
        long sum = 0;
        for (int what = 0; what <= 10; what++) sum = sum * 31 + x.count(what);
        for (int p = 0; p < 7; p++) for (int what = 0; what < 6; what++) sum = sum * 31 + x.personIs(p, what);
        for (int t = 0; t < 10; t++) for (int what = 0; what < 8; what++) sum = sum * 31 + x.thingIs(t, what);
        return sum;
    }
}
