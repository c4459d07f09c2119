/** Promises 1 to 42 in the document's order: each sentence of them that names a boundary has a test of its own. */
public final class EdgesTest {
    private static final int BEYOND = -1000000001;
    private static final int NONE = -1000000002;
    private static final int STATE = -1000000003;
    private static final int FULL = -1000000004;
    private static final int KIND = -1000000005;
    private static final int PARTED = -1000000006;
    private static final Sentences S = new Sentences("EdgesTest");

    public static void main(String[] args) {
        newObject();
        person();
        personIs();
        become();
        as();
        feel();
        thing();
        thingIs();
        mark();
        anew();
        feed();
        text();
        untell();
        law();
        urgeAndGuard();
        comes();
        hours();
        friday();
        seed();
        wants();
        trap();
        safest();
        lock();
        round();
        odds();
        who();
        lost();
        oldest();
        voice();
        body();
        sheet();
        put();
        move();
        labels();
        judge();
        image();
        restore();
        tell();
        check();
        count();
        told();
        S.finish();
    }

    private static ElevenYoghurts made(String... calls) {
        ElevenYoghurts x = new ElevenYoghurts();
        Calls.all(x, calls);
        return x;
    }

    private static int told(ElevenYoghurts x, int use, String text) {
        TextsTest.write(x, text);
        return x.text(use);
    }

    /** At its last HOUR. */
    private static ElevenYoghurts late(String... calls) {
        ElevenYoghurts x = new ElevenYoghurts();
        for (int i = 0; i < 249; i++) x.hours(40);
        x.hours(39);
        Calls.all(x, calls);
        return x;
    }

    // ---- people, things

    private static void newObject() {
        S.of(1, "All as at first; no PEOPLE, no THINGS, no TEXTS.");
        ElevenYoghurts x = new ElevenYoghurts();
        for (int what = 0; what < 10; what++) S.due(x, "count(" + what + ")", 0);
        S.due(x, "count(10)", 1);
        for (int k = 1; k <= 6; k++) S.due(x, "told(" + k + ")", 0);
        S.due(x, "personIs(0, 0)", BEYOND);
        S.due(x, "thingIs(0, 0)", BEYOND);
        S.due(x, "untell(0)", 0);
        S.due(x, "untell(1)", 0);
        S.due(x, "body(0)", NONE);
        S.due(x, "restore()", NONE);
        for (int s = 0; s < 4; s++) S.due(x, "judge(" + s + ")", NONE);
    }

    private static void person() {
        S.of(2, "One more of the PEOPLE (km: 10 times the KIND, and m): the number. BEYOND. FULL.");
        ElevenYoghurts x = new ElevenYoghurts();
        S.due(x, "person(-1)", BEYOND);
        S.due(x, "person(0)", 0);
        S.due(x, "person(69)", 1);
        S.due(x, "person(70)", BEYOND);
        S.due(x, "personIs(1, 0)", 6);
        S.due(x, "personIs(1, 1)", 9);
        for (int p = 2; p < 8; p++) S.due(x, "person(10)", p);
        S.due(x, "person(10)", FULL);
        S.due("BEYOND is asked ahead of FULL", x.person(70), BEYOND);
        S.due(x, "count(0)", 8);
    }

    private static void personIs() {
        S.of(3, "4 SUSPECT (-1: nobody), 5 how many THINGS in THE FRIDGE are his. BEYOND.");
        ElevenYoghurts x = made("person(0)", "person(0)");
        S.due(x, "personIs(0, 4)", -1);
        S.due(x, "personIs(0, 5)", 0);
        for (int t = 0; t < 10; t++) x.thing(0, 0, 0, 0);
        S.due(x, "personIs(0, 5)", 10);
        S.due(x, "personIs(1, 5)", 0);
        x.comes(0, 0);
        S.due(x, "personIs(0, 5)", 9);
        x.friday(0);
        S.due(x, "personIs(0, 5)", 0);
        S.due(x, "personIs(1, 5)", 0);
        S.due(x, "personIs(2, 5)", BEYOND);
        S.due(x, "personIs(-1, 5)", BEYOND);
        S.due(x, "personIs(1, 6)", BEYOND);
        S.due(x, "personIs(1, -1)", BEYOND);
    }

    private static void become() {
        S.of(4, "One becomes one of a KIND, with m (km): the KIND that he was. BEYOND.");
        ElevenYoghurts x = made("person(35)");
        S.due(x, "become(0, 69)", 3);
        S.due(x, "become(0, 70)", BEYOND);
        S.due(x, "become(0, -1)", BEYOND);
        S.due(x, "become(1, 0)", BEYOND);
        S.due(x, "become(-1, 0)", BEYOND);
        S.due(x, "become(0, 0)", 6);
        S.due(x, "personIs(0, 0)", 0);
        S.due(x, "personIs(0, 1)", 0);
    }

    private static void as() {
        S.of(5, "KIND: he isn't of that KIND, nor of one under it.");
        ElevenYoghurts x = made("person(47)", "person(12)", "person(3)");
        S.due(x, "as(0, 4)", 7);
        S.due(x, "as(0, 1)", 7);
        S.due(x, "as(0, 0)", 7);
        S.due(x, "as(0, 2)", KIND);
        S.due(x, "as(0, 5)", KIND);
        S.due(x, "as(1, 4)", KIND);
        S.due(x, "as(2, 1)", KIND);
        S.of(5, "One as one of a KIND: m. BEYOND.");
        S.due(x, "as(0, 7)", BEYOND);
        S.due(x, "as(0, -1)", BEYOND);
        S.due(x, "as(3, 0)", BEYOND);
        S.due(x, "as(-1, 0)", BEYOND);
    }

    private static void feel() {
        S.of(6, "HUNGER (what 0), ROBBED (1), SUSPECT (2; -1: nobody; not himself) of one becomes v: what it was. BEYOND.");
        ElevenYoghurts x = made("person(0)", "person(0)");
        int[] least = {0, 0, -1};
        int[] most = {99, 9, 1};
        int[] was = {10, 0, -1};
        for (int what = 0; what < 3; what++) {
            S.due(x, "feel(0, " + what + ", " + most[what] + ")", was[what]);
            S.due(x, "feel(0, " + what + ", " + (most[what] + 1) + ")", BEYOND);
            S.due(x, "feel(0, " + what + ", " + (least[what] - 1) + ")", BEYOND);
            S.due(x, "personIs(0, " + (what + 2) + ")", most[what]);
            S.due(x, "feel(0, " + what + ", " + least[what] + ")", most[what]);
            S.due(x, "personIs(0, " + (what + 2) + ")", least[what]);
        }
        S.due(x, "feel(0, 2, 0)", BEYOND);
        S.due(x, "feel(1, 2, 1)", BEYOND);
        S.due(x, "feel(1, 2, 0)", -1);
        S.due(x, "feel(0, 3, 0)", BEYOND);
        S.due(x, "feel(0, -1, 0)", BEYOND);
        S.due(x, "feel(2, 0, 0)", BEYOND);
        S.due(x, "feel(-1, 0, 0)", BEYOND);
    }

    private static void thing() {
        S.of(7, "A THING: its number. BEYOND. FULL.");
        ElevenYoghurts x = new ElevenYoghurts();
        S.due(x, "thing(0, 0, 0, 0)", BEYOND);
        x.person(0);
        S.due(x, "thing(0, 0, 0, 0)", 0);
        S.due(x, "thing(0, 2, 3, 9)", 1);
        String[] beyond = {"1, 0, 0, 0", "-1, 0, 0, 0", "0, 3, 0, 0", "0, -1, 0, 0", "0, 0, 4, 0", "0, 0, -1, 0", "0, 0, 0, 10", "0, 0, 0, -1"};
        for (String args : beyond) S.due(x, "thing(" + args + ")", BEYOND);
        for (int t = 2; t < 10; t++) S.due(x, "thing(0, 0, 0, 0)", t);
        S.due(x, "thing(0, 0, 0, 0)", FULL);
        for (String args : beyond) S.due("BEYOND is asked ahead of FULL: " + args, Calls.answer(x, "thing(" + args + ")"), BEYOND);
        x.friday(0);
        S.due(x, "thing(0, 0, 0, 0)", FULL);
    }

    private static void thingIs() {
        S.of(8, "5 who took it (-1: nobody: it is there, or was thrown out on a Friday)");
        ElevenYoghurts x = made("person(30)", "person(60)", "thing(0, 0, 0, 0)", "thing(0, 0, 0, 0)", "thing(0, 0, 0, 0)");
        S.due(x, "thingIs(0, 5)", -1);
        Calls.all(x, "comes(0, 0)", "comes(1, 0)", "friday(0)");
        S.due(x, "thingIs(0, 5)", 0);
        S.due(x, "thingIs(1, 5)", 1);
        S.due(x, "thingIs(2, 5)", -1);
        Calls.all(x, "anew(0)", "anew(1)");
        S.due(x, "thingIs(0, 5)", -1);
        S.due(x, "thingIs(1, 5)", -1);

        S.of(8, "4 whether it is in THE FRIDGE");
        S.due(x, "thingIs(0, 4)", 1);
        S.due(x, "thingIs(2, 4)", 0);

        S.of(8, "6 LOCKED, 7 APPEAL. BEYOND.");
        S.due(x, "thingIs(2, 6)", 0);
        S.due(x, "thingIs(2, 7)", 20);
        S.due(x, "thingIs(2, 8)", BEYOND);
        S.due(x, "thingIs(2, -1)", BEYOND);
        S.due(x, "thingIs(3, 0)", BEYOND);
        S.due(x, "thingIs(-1, 0)", BEYOND);
    }

    private static void mark() {
        S.of(9, "LABEL (what 0), LOOK (1), AGE (2), LOCKED (3) of a THING becomes v: what it was. BEYOND.");
        ElevenYoghurts x = made("person(0)", "thing(0, 1, 1, 1)");
        int[] most = {2, 3, 9, 1};
        for (int what = 0; what < 4; what++) {
            S.due(x, "mark(0, " + what + ", " + (most[what] + 1) + ")", BEYOND);
            S.due(x, "mark(0, " + what + ", -1)", BEYOND);
            S.due(x, "mark(0, " + what + ", " + most[what] + ")", what == 3 ? 0 : 1);
            S.due(x, "mark(0, " + what + ", 0)", most[what]);
        }
        S.due(x, "mark(0, 4, 0)", BEYOND);
        S.due(x, "mark(0, -1, 0)", BEYOND);
        S.due(x, "mark(1, 0, 0)", BEYOND);
        S.due(x, "mark(-1, 0, 0)", BEYOND);

        S.of(9, "STATE: it is gone.");
        x.comes(0, 0);
        for (int what = 0; what < 4; what++) {
            S.due(x, "mark(0, " + what + ", 0)", STATE);
            S.due("BEYOND is asked ahead of STATE, what " + what, x.mark(0, what, most[what] + 1), BEYOND);
        }
        S.due(x, "mark(0, 4, 0)", BEYOND);
        x.anew(0);
        S.due(x, "mark(0, 0, 1)", 0);
    }

    private static void anew() {
        S.of(10, "A THING that is gone is in THE FRIDGE anew, AGE 0, all else of it as it was: how many are there then.");
        ElevenYoghurts x = made("person(0)", "person(30)", "thing(1, 2, 3, 9)", "mark(0, 3, 1)", "thing(0, 0, 0, 0)", "friday(0)");
        S.due(x, "anew(0)", 1);
        int[] is = {1, 2, 3, 0, 1, -1, 1, 50};
        for (int what = 0; what < 8; what++) S.due(x, "thingIs(0, " + what + ")", is[what]);
        S.due(x, "anew(1)", 2);
        S.due(x, "comes(1, 0)", 1);
        S.due(x, "anew(1)", 2);

        S.of(10, "STATE: it is there.");
        S.due(x, "anew(0)", STATE);
        S.due(x, "anew(1)", STATE);
        S.due(x, "thingIs(0, 6)", 1);

        S.of(10, "BEYOND. STATE: it is there.");
        S.due(x, "anew(2)", BEYOND);
        S.due(x, "anew(-1)", BEYOND);
        S.due(new ElevenYoghurts(), "anew(0)", BEYOND);
    }

    // ---- texts

    private static void feed() {
        S.of(11, "The n lowest bytes (1 .. 8) of a word, the lowest first, come to THE TAPE: how many there are. BEYOND. FULL.");
        ElevenYoghurts x = new ElevenYoghurts();
        S.due(x, "feed(108, 0)", BEYOND);
        S.due(x, "feed(108, -1)", BEYOND);
        S.due(x, "feed(108, 9)", BEYOND);
        S.due(x, "feed(108, -2147483648)", BEYOND);
        S.due(x, "count(7)", 0);
        // The bytes of "1+2*3+4%" from the lowest on; the ninth, "7", stands in a word of its own.
        S.due("8 bytes", x.feed(0x25342b332a322b31L, 8), 8);
        S.due("1 byte, whatever stands above it", x.feed(0x7fffffffffffff37L, 1), 9);
        S.due(x, "text(0)", 1);
        S.due(x, "law(0, 0, 0, 0)", 1 + 2 * 3 + 4 % 7);
        for (int n = 8; n <= 56; n += 8) S.due(x, "feed(-1, 8)", n);
        S.due(x, "feed(-1, 5)", FULL);
        S.due(x, "feed(-1, 4)", 60);
        S.due(x, "feed(-1, 1)", FULL);
        S.due(x, "feed(-1, 8)", FULL);
        S.due("BEYOND is asked ahead of FULL", x.feed(-1, 9), BEYOND);
        S.due("BEYOND is asked ahead of FULL", x.feed(-1, 0), BEYOND);
        S.due(x, "count(7)", 60);
        S.due(x, "text(0)", -10);
    }

    private static void text() {
        S.of(12, "THE TAPE, which is empty then, is the TEXT of a USE (0, 1), in place of one ahead: 1.");
        for (int use = 0; use < 2; use++) {
            ElevenYoghurts x = new ElevenYoghurts();
            S.due("5", told(x, use, "5"), 1);
            S.due(x, "count(7)", 0);
            S.due("l+o+1", told(x, use, "l+o+1"), 1);
            S.due("NAMES l, o of USE " + use, x.law(use, 2, 3, 4), use == 0 ? 6 : 7);
            S.due("6", told(x, use, "6"), 1);
            S.due("6, in place of it", x.law(use, 2, 3, 4), 6);
        }

        S.of(12, "BEYOND (THE TAPE stays).");
        ElevenYoghurts x = new ElevenYoghurts();
        TextsTest.write(x, "7");
        S.due(x, "text(2)", BEYOND);
        S.due(x, "text(-1)", BEYOND);
        S.due(x, "count(7)", 1);
        S.due(x, "text(1)", 1);
        S.due(x, "law(1, 0, 0, 0)", 7);

        S.of(12, "-10 less the FAULT (no ERROR; the one ahead stays; THE TAPE is empty, too).");
        S.due(x, "text(1)", -10);
        S.due("8+", told(x, 1, "8+"), -12);
        S.due("8+a", told(x, 1, "8+a"), -12);
        S.due("60 bytes", told(x, 1, "(".repeat(5) + "1+".repeat(27) + "1"), -70);
        S.due(x, "count(7)", 0);
        S.due(x, "law(1, 0, 0, 0)", 7);
        S.due(x, "untell(1)", 1);
        S.due(x, "untell(0)", 0);
        S.due(x, "told(1)", 2);
        for (int k = 2; k <= 6; k++) S.due(x, "told(" + k + ")", 0);
    }

    private static void untell() {
        S.of(13, "There is no TEXT of a USE any more: 1 if there was, else 0. BEYOND.");
        for (int use = 0; use < 2; use++) {
            ElevenYoghurts x = new ElevenYoghurts();
            S.due(x, "untell(" + use + ")", 0);
            told(x, use, "77");
            S.due(x, "untell(" + (1 - use) + ")", 0);
            S.due(x, "untell(" + use + ")", 1);
            S.due("as without one", x.law(use, 0, 0, 0), use == 0 ? 20 : 0);
            S.due(x, "untell(" + use + ")", 0);
        }
        ElevenYoghurts x = new ElevenYoghurts();
        S.due(x, "untell(2)", BEYOND);
        S.due(x, "untell(-1)", BEYOND);
    }

    private static void law() {
        S.of(14, "What a USE gives with its NAMES in order as a, b, c. BEYOND.");
        ElevenYoghurts x = new ElevenYoghurts();
        S.due(x, "law(2, 0, 0, 0)", BEYOND);
        S.due(x, "law(-1, 0, 0, 0)", BEYOND);
        for (int use = 0; use < 2; use++) {
            told(x, use, use == 0 ? "l*9+o*3+a" : "l*9+s*3+o");
            S.due("NAMES in order, USE " + use, x.law(use, 1, 2, 5), 20);
            S.due("held, USE " + use, x.law(use, 11, 0, 0), 99);
            S.due("held, USE " + use, x.law(use, 0, 0, -1), 0);
            S.due("any ints, USE " + use, x.law(use, Integer.MIN_VALUE, Integer.MIN_VALUE, 3), 3);
            S.due("any ints, USE " + use, x.law(use, 0, Integer.MAX_VALUE, 5), 0);
            S.due("any ints, USE " + use, x.law(use, 0, 0, Integer.MAX_VALUE), 99);
        }
    }

    // ---- who comes

    private static void urgeAndGuard() {
        S.of(15, "URGE of one for a THING (gone or LOCKED, too). BEYOND.");
        ElevenYoghurts x = made("person(30)", "thing(0, 2, 3, 0)");
        S.due(x, "urge(0, 0)", 50);
        x.mark(0, 3, 1);
        S.due(x, "urge(0, 0)", 50);
        x.friday(0);
        S.due(x, "urge(0, 0)", 50);
        S.due(x, "urge(1, 0)", BEYOND);
        S.due(x, "urge(-1, 0)", BEYOND);
        S.due(x, "urge(0, 1)", BEYOND);
        S.due(x, "urge(0, -1)", BEYOND);

        S.of(16, "GUARD of a THING, SEEN (1) or not (0). BEYOND.");
        S.due(x, "guard(0, 0)", 20);
        S.due(x, "guard(0, 1)", 40);
        S.due(x, "guard(0, 2)", BEYOND);
        S.due(x, "guard(0, -1)", BEYOND);
        S.due(x, "guard(1, 0)", BEYOND);
        S.due(x, "guard(-1, 0)", BEYOND);
    }

    private static void comes() {
        S.of(17, "He COMES: the THING that he takes (-1: none). BEYOND.");
        ElevenYoghurts x = made("person(30)");
        S.due(x, "comes(0, 0)", -1);
        for (int t = 0; t < 10; t++) x.thing(0, 0, 0, 0);
        S.due(x, "comes(0, 2)", BEYOND);
        S.due(x, "comes(0, -1)", BEYOND);
        S.due(x, "comes(1, 0)", BEYOND);
        S.due(x, "comes(-1, 0)", BEYOND);
        for (int t = 0; t < 10; t++) S.due(x, "comes(0, " + t % 2 + ")", t);
        S.due(x, "comes(0, 0)", -1);
        S.due(x, "comes(0, 1)", -1);
        S.due(x, "count(5)", 10);
    }

    private static void hours() {
        S.of(18, "n (1 .. 40) HOURS BY DRAWS: STOLEN. BEYOND.");
        ElevenYoghurts x = made("person(30)", "person(0)", "thing(1, 0, 3, 0)", "comes(0, 0)");
        S.due(x, "hours(0)", BEYOND);
        S.due(x, "hours(41)", BEYOND);
        S.due(x, "hours(-1)", BEYOND);
        S.due(x, "hours(-2147483648)", BEYOND);
        S.due(x, "hours(2147483647)", BEYOND);
        S.due(x, "count(3)", 0);
        S.due(x, "hours(1)", 1);
        S.due(x, "count(3)", 1);
        S.due(x, "hours(40)", 1);
        S.due(x, "count(3)", 41);

        S.of(18, "STATE: HOUR would be above 9999.");
        for (int i = 0; i < 248; i++) x.hours(40);
        S.due(x, "count(3)", 9961);
        S.due(x, "hours(39)", STATE);
        S.due("BEYOND is asked ahead of STATE", x.hours(41), BEYOND);
        S.due(x, "count(3)", 9961);
        S.due(x, "hours(38)", 1);
        S.due(x, "count(3)", 9999);
        S.due(x, "hours(1)", STATE);
        S.due("BEYOND is asked ahead of STATE", x.hours(0), BEYOND);
    }

    private static void friday() {
        S.of(19, "On a Friday all THINGS in THE FRIDGE of an AGE (0 .. 9) or more are thrown out, LOCKED or not: how many (THROWN is as many more). BEYOND.");
        ElevenYoghurts x = made("person(60)", "thing(0, 0, 0, 9)", "thing(0, 0, 0, 8)", "thing(0, 0, 0, 9)", "mark(2, 3, 1)", "thing(0, 0, 0, 0)");
        S.due(x, "friday(10)", BEYOND);
        S.due(x, "friday(-1)", BEYOND);
        S.due(x, "count(2)", 4);
        S.due(x, "comes(0, 0)", 0);
        S.due(x, "friday(9)", 1);
        S.due(x, "thingIs(2, 4)", 0);
        S.due(x, "thingIs(1, 4)", 1);
        S.due(x, "count(6)", 2);
        S.due(x, "friday(9)", 0);
        S.due(x, "friday(1)", 1);
        S.due(x, "friday(0)", 1);
        S.due(x, "count(6)", 4);
        S.due(x, "friday(0)", 0);
        S.due(x, "count(6)", 4);
    }

    private static void seed() {
        S.of(20, "z becomes v: what it was (any number).");
        ElevenYoghurts x = new ElevenYoghurts();
        int[] numbers = {1, 0, -1, Integer.MIN_VALUE, Integer.MAX_VALUE, BEYOND, PARTED, 1};
        for (int i = 1; i < numbers.length; i++) S.due(x, "seed(" + numbers[i] + ")", numbers[i - 1]);
        for (int k = 1; k <= 6; k++) S.due(x, "told(" + k + ")", 0);
    }

    // ---- what would be

    private static void wants() {
        S.of(21, "What one WANTS, SEEN or not: what 0 the THING (-1: none), 1 its URGE less GUARD (0: none). BEYOND.");
        ElevenYoghurts x = made("person(30)", "person(0)");
        S.due(x, "wants(0, 0, 0)", -1);
        S.due(x, "wants(0, 0, 1)", 0);
        x.thing(1, 0, 0, 0);
        S.due(x, "wants(0, 0, 0)", 0);
        S.due(x, "wants(0, 0, 1)", 20);
        S.due(x, "wants(0, 1, 0)", -1);
        S.due(x, "wants(0, 1, 1)", 0);
        S.due(x, "wants(0, 2, 0)", BEYOND);
        S.due(x, "wants(0, -1, 0)", BEYOND);
        S.due(x, "wants(0, 0, 2)", BEYOND);
        S.due(x, "wants(0, 0, -1)", BEYOND);
        S.due(x, "wants(2, 0, 0)", BEYOND);
        S.due(x, "wants(-1, 0, 0)", BEYOND);
    }

    private static void trap() {
        S.of(22, "TRAP, SEEN or not. BEYOND.");
        ElevenYoghurts x = made("person(30)", "person(0)", "thing(1, 0, 0, 0)");
        S.due(x, "trap(0, 0)", 3);
        S.due(x, "trap(0, 1)", 2);
        x.comes(1, 0);
        S.due(x, "trap(0, 0)", 0);
        S.due(x, "trap(0, 2)", BEYOND);
        S.due(x, "trap(0, -1)", BEYOND);
        S.due(x, "trap(1, 0)", BEYOND);
        S.due(x, "trap(-1, 0)", BEYOND);
    }

    private static void safest() {
        S.of(23, "SAFEST. BEYOND. STATE: it is gone.");
        ElevenYoghurts x = made("person(30)", "person(0)", "thing(1, 0, 0, 0)");
        S.due(x, "safest(0)", 2);
        S.due(x, "safest(1)", BEYOND);
        S.due(x, "safest(-1)", BEYOND);
        x.comes(1, 0);
        S.due(x, "safest(0)", STATE);
        S.due(x, "safest(1)", BEYOND);
    }

    private static void lock() {
        S.of(24, "LOCKS: what 0 how many, 1 the set. BEYOND.");
        ElevenYoghurts x = made("person(60)", "person(0)");
        S.due(x, "lock(0)", 0);
        S.due(x, "lock(1)", 0);
        for (int t = 0; t < 10; t++) x.thing(1, 0, 0, t);
        S.due(x, "lock(0)", 10);
        S.due(x, "lock(1)", 1023);
        x.become(0, 69);
        S.due(x, "lock(0)", 1);
        S.due(x, "lock(1)", 512);
        S.due(x, "lock(2)", BEYOND);
        S.due(x, "lock(-1)", BEYOND);
    }

    private static void round() {
        S.of(25, "what 0 how many are ahead of the ring (without a ring: how many robbings), 1 how many are of it. BEYOND.");
        ElevenYoghurts x = made("person(30)", "person(0)", "person(30)");
        S.due(x, "round(0, 0)", 0);
        S.due(x, "round(0, 1)", 0);
        x.thing(1, 0, 0, 0);
        S.due(x, "round(0, 0)", 1);
        S.due(x, "round(0, 1)", 0);
        S.due(x, "round(1, 0)", 0);
        Calls.all(x, "thing(0, 0, 3, 0)", "become(1, 50)", "feel(1, 1, 1)", "feel(1, 2, 0)", "mark(0, 3, 1)");
        // 0 wants his own now; 1 and 2 want it, too.
        S.due(x, "round(0, 0)", 0);
        S.due(x, "round(1, 0)", 1);
        S.due(x, "round(2, 0)", 1);
        S.due(x, "round(2, 1)", 0);
        Calls.all(x, "thing(1, 0, 3, 0)", "mark(1, 1, 0)", "feel(1, 1, 9)");
        // 0 and 2 want that of 1, and 1 wants that of 0.
        S.due(x, "round(0, 0)", 0);
        S.due(x, "round(0, 1)", 2);
        S.due(x, "round(2, 0)", 1);
        S.due(x, "round(2, 1)", 2);
        S.due(x, "round(3, 0)", BEYOND);
        S.due(x, "round(-1, 0)", BEYOND);
        S.due(x, "round(0, 2)", BEYOND);
        S.due(x, "round(0, -1)", BEYOND);
    }

    private static void odds() {
        S.of(26, "ODDS: part 0 above, 1 below the line. BEYOND.");
        ElevenYoghurts x = made("person(30)", "person(0)", "thing(1, 0, 0, 0)");
        S.due(x, "odds(0, 0)", 3);
        S.due(x, "odds(0, 1)", 4);
        x.mark(0, 3, 1);
        S.due(x, "odds(0, 0)", 0);
        S.due(x, "odds(0, 1)", 1);
        S.due(x, "odds(0, 2)", BEYOND);
        S.due(x, "odds(0, -1)", BEYOND);
        S.due(x, "odds(1, 0)", BEYOND);
        S.due(x, "odds(-1, 0)", BEYOND);
    }

    private static void who() {
        S.of(27, "WHO, as a set. BEYOND. NONE: the SHEET is missing.");
        ElevenYoghurts x = made("sheet(3, 8, 0)", "sheet(0, 32, 10)");
        S.due(x, "who(3)", 0);
        for (int p = 0; p < 8; p++) x.person(30);
        for (int t = 0; t < 10; t++) Calls.all(x, "thing(0, 0, 0, 0)", "put(0, " + t + ", " + t + ")");
        S.due(x, "who(3)", 255);
        S.due(x, "who(0)", 255);
        x.put(0, 9, 10);
        S.due(x, "who(0)", 0);
        S.due(x, "who(1)", NONE);
        S.due(x, "who(4)", BEYOND);
        S.due(x, "who(-1)", BEYOND);
        x.sheet(3, 0, 0);
        S.due(x, "who(3)", NONE);
    }

    private static void lost() {
        S.of(28, "LOST by n (0 .. 60): what 0 how many are STOLEN, 1 how many THINGS are in THE FRIDGE then. BEYOND.");
        ElevenYoghurts x = made("person(30)", "person(0)", "thing(0, 0, 3, 0)", "thing(1, 0, 2, 0)");
        S.due(x, "lost(0, 0)", 0);
        S.due(x, "lost(0, 1)", 2);
        S.due(x, "lost(60, 1)", 0);
        x.image();
        x.hours(40);
        x.hours(20);
        int stolen = x.count(4);
        x.restore();
        S.due(x, "lost(60, 0)", stolen);
        S.due(x, "lost(61, 0)", BEYOND);
        S.due(x, "lost(-1, 0)", BEYOND);
        S.due(x, "lost(0, 2)", BEYOND);
        S.due(x, "lost(0, -1)", BEYOND);
        S.due(late("person(0)", "thing(0, 0, 0, 0)"), "lost(60, 1)", 0);
    }

    private static void oldest() {
        S.of(29, "The THING in THE FRIDGE with the greatest AGE; of several the least. NONE.");
        ElevenYoghurts x = made("person(0)");
        S.due(x, "oldest()", NONE);
        x.thing(0, 0, 0, 0);
        S.due(x, "oldest()", 0);
        x.thing(0, 0, 0, 0);
        S.due(x, "oldest()", 0);
        Calls.all(x, "thing(0, 0, 0, 9)", "thing(0, 0, 0, 9)");
        S.due(x, "oldest()", 2);
        x.friday(9);
        S.due(x, "oldest()", 0);
        x.comes(0, 0);
        S.due(x, "oldest()", 1);
        x.comes(0, 0);
        S.due(x, "oldest()", NONE);
    }

    // ---- voices, sheets, images, what is told

    private static void voice() {
        S.of(30, "A VOICE of one: any number. BEYOND. PARTED.");
        ElevenYoghurts x = made("person(0)", "person(4)");
        S.due(x, "voice(0, 0, 2147483647)", Integer.MAX_VALUE);
        S.due(x, "voice(0, 0, -2147483648)", Integer.MIN_VALUE);
        for (int error = PARTED; error <= BEYOND; error++) S.due(x, "voice(0, 0, " + error + ")", error);
        for (int k = 1; k <= 6; k++) S.due(x, "told(" + k + ")", 0);
        S.due(x, "voice(0, 3, 1)", PARTED);
        S.due(x, "voice(1, 3, 7)", 2);
        S.due(x, "voice(2, 0, 1)", BEYOND);
        S.due(x, "voice(-1, 0, 1)", BEYOND);
        S.due(x, "voice(0, 4, 1)", BEYOND);
        S.due(x, "voice(0, -1, 1)", BEYOND);
        S.due(x, "told(1)", 4);
        S.due(x, "told(6)", 1);
    }

    private static void body() {
        S.of(31, "THE TRACE's i-th. NONE: there is none such.");
        ElevenYoghurts x = made("person(0)");
        S.due(x, "body(0)", NONE);
        x.voice(0, 1, 0);
        S.due(x, "body(-1)", NONE);
        S.due(x, "body(0)", 11);
        S.due(x, "body(1)", 10);
        S.due(x, "body(2)", NONE);
        S.due(x, "body(29)", NONE);
        S.due(x, "body(30)", NONE);
        S.due(x, "body(-2147483648)", NONE);
        S.due(x, "body(2147483647)", NONE);
    }

    private static void sheet() {
        S.of(32, "A SHEET has n numbers, all 0, of so many bits (8, 16, 32; 0: it is missing, n doesn't matter): 1. BEYOND.");
        ElevenYoghurts x = made("person(0)", "thing(0, 2, 0, 0)", "thing(0, 2, 0, 0)");
        S.due(x, "sheet(0, 8, 0)", 1);
        S.due(x, "put(0, 0, 0)", BEYOND);
        S.due(x, "sheet(0, 16, 24)", 1);
        Calls.all(x, "put(0, 0, 1)", "put(0, 1, 3)");
        S.due(x, "sheet(0, 32, 2)", 1);
        S.due(x, "labels(0)", 2);
        S.due(x, "thingIs(0, 1)", 0);
        S.due(x, "sheet(0, 32, 25)", BEYOND);
        int[] bits = {-8, -1, 1, 7, 9, 15, 17, 24, 31, 33, 64, Integer.MIN_VALUE, Integer.MAX_VALUE};
        for (int b : bits) S.due(x, "sheet(0, " + b + ", 2)", BEYOND);
        S.due(x, "sheet(4, 8, 2)", BEYOND);
        S.due(x, "sheet(-1, 8, 2)", BEYOND);
        S.due("nothing changed", x.labels(0), 2);
        int[] any = {0, -1, 25, Integer.MIN_VALUE, Integer.MAX_VALUE};
        for (int n : any) {
            S.due(x, "sheet(0, 8, 2)", 1);
            S.due(x, "sheet(0, 0, " + n + ")", 1);
            S.due(x, "labels(0)", NONE);
        }

        S.of(32, "STATE: n is below 0 (ahead of BEYOND of n).");
        for (int b = 8; b <= 32; b *= 2) {
            S.due(x, "sheet(3, " + b + ", -1)", STATE);
            S.due(x, "sheet(3, " + b + ", -2147483648)", STATE);
        }
        S.due(x, "put(3, 0, 0)", NONE);
        S.due("BEYOND of the SHEET is asked ahead", x.sheet(4, 8, -1), BEYOND);
    }

    private static void put() {
        S.of(33, "Number i of a SHEET becomes v (its lowest bits): 1.");
        int[] bits = {8, 16, 32};
        int[] full = {256, 65536, 0};
        for (int s = 0; s < 3; s++) {
            ElevenYoghurts x = made("person(0)", "thing(0, 0, 0, 0)", "sheet(0, " + bits[s] + ", 1)");
            S.due("put, " + bits[s] + " bits", x.put(0, 0, 2 + full[s]), 1);
            S.due("its lowest " + bits[s] + " bits", x.labels(0), 1);
            S.due("LABEL by " + bits[s] + " bits", x.thingIs(0, 1), 2);
            x.put(0, 0, 1 + full[s] / 2);
            S.due("one bit less is too few of " + bits[s], x.labels(0), s == 2 ? 1 : 0);
            x.put(0, 0, 1 + (1 << 31));
            S.due("the highest bit of 32, of " + bits[s], x.labels(0), s == 2 ? 0 : 1);
        }

        S.of(33, "BEYOND: no such SHEET. NONE: it is missing. BEYOND: no such number.");
        ElevenYoghurts x = made("sheet(0, 8, 24)", "sheet(1, 8, 0)");
        S.due(x, "put(4, 0, 0)", BEYOND);
        S.due(x, "put(-1, 0, 0)", BEYOND);
        S.due(x, "put(2, 0, 0)", NONE);
        S.due("NONE is asked ahead of BEYOND of the number", x.put(2, -1, 0), NONE);
        S.due(x, "put(0, 23, 0)", 1);
        S.due(x, "put(0, 24, 0)", BEYOND);
        S.due(x, "put(0, -1, 0)", BEYOND);
        S.due(x, "put(1, 0, 0)", BEYOND);
    }

    private static void move() {
        S.of(34, "BEYOND: no such SHEET. NONE: one is missing. KIND: they are of unlike bits.");
        ElevenYoghurts x = made("sheet(0, 8, 24)", "sheet(1, 8, 2)", "sheet(2, 16, 2)");
        S.due(x, "move(4, 0, 0, 0, 1)", BEYOND);
        S.due(x, "move(0, 0, 4, 0, 1)", BEYOND);
        S.due(x, "move(-1, 0, 0, 0, 1)", BEYOND);
        S.due(x, "move(0, 0, -1, 0, 1)", BEYOND);
        S.due(x, "move(3, 0, 4, 0, 1)", BEYOND);
        S.due(x, "move(0, 0, 3, 0, 1)", NONE);
        S.due(x, "move(3, 0, 0, 0, 1)", NONE);
        S.due(x, "move(3, 0, 3, 0, 1)", NONE);
        S.due(x, "move(3, 0, 0, -1, -1)", NONE);
        S.due(x, "move(0, 0, 2, 0, 1)", KIND);
        S.due(x, "move(2, 0, 0, 0, 0)", KIND);
        S.due(x, "move(0, -1, 2, -1, -1)", KIND);

        S.of(34, "BEYOND: n, i, or j is below 0, or they don't stand there.");
        S.due(x, "move(0, 0, 1, 0, -1)", BEYOND);
        S.due(x, "move(0, -1, 1, 0, 1)", BEYOND);
        S.due(x, "move(0, 0, 1, -1, 1)", BEYOND);
        S.due(x, "move(0, 0, 1, 0, -2147483648)", BEYOND);
        S.due(x, "move(0, 22, 1, 0, 2)", 2);
        S.due(x, "move(0, 23, 1, 0, 2)", BEYOND);
        S.due(x, "move(0, 0, 1, 0, 3)", BEYOND);
        S.due(x, "move(0, 0, 1, 1, 2)", BEYOND);
        S.due(x, "move(1, 1, 0, 0, 2)", BEYOND);
        S.due(x, "move(0, 2147483647, 1, 0, 1)", BEYOND);
        S.due(x, "move(0, 1, 1, 1, 2147483647)", BEYOND);
        S.due(x, "move(0, 0, 1, 2, 0)", 0);
        S.due(x, "move(0, 24, 1, 0, 0)", 0);
        S.due(x, "move(0, 0, 0, 0, 24)", 24);
        S.due(x, "move(0, 0, 0, 0, 25)", BEYOND);

        S.of(34, "come to another one (or the same), from its number j on, as they all were: n.");
        int[][] due = {{2, 0, 1, 2, 2}, {1, 1, 2, 0, 1}};
        for (int up = 0; up < 2; up++) {
            x = made("person(0)", "sheet(0, 32, 5)");
            for (int t = 0; t < 5; t++) Calls.all(x, "thing(0, 0, 0, 0)", "put(0, " + t + ", " + (t + 1) % 3 + ")");
            S.due("from " + (1 - up) + " to " + up, x.move(0, 1 - up, 0, up, 4), 4);
            S.due(x, "labels(0)", 5);
            for (int t = 0; t < 5; t++) S.due("from " + (1 - up) + ": number " + t, x.thingIs(t, 1), due[up][t]);
        }
    }

    private static void labels() {
        S.of(35, "Numbers of a SHEET become LABELS of THINGS 0, 1, .. (gone or not): how many, up to the first that is not 0 to 2 (no ERROR then),"
            + " or for which there is no THING.");
        ElevenYoghurts x = made("sheet(0, 8, 3)", "sheet(1, 8, 0)");
        S.due(x, "labels(0)", 0);
        Calls.all(x, "person(0)", "thing(0, 1, 0, 0)", "thing(0, 1, 0, 0)", "comes(0, 0)");
        S.due(x, "labels(1)", 0);
        S.due(x, "thingIs(0, 1)", 1);
        S.due(x, "labels(0)", 2);
        S.due("gone", x.thingIs(0, 1), 0);
        S.due(x, "thingIs(1, 1)", 0);
        Calls.all(x, "put(0, 0, 2)", "put(0, 1, 3)");
        S.due(x, "labels(0)", 1);
        S.due(x, "thingIs(0, 1)", 2);
        S.due(x, "thingIs(1, 1)", 0);
        x.put(0, 0, -1);
        S.due(x, "labels(0)", 0);
        S.due(x, "thingIs(0, 1)", 2);
        Calls.all(x, "put(0, 0, 1)", "put(0, 1, 2)", "thing(0, 1, 0, 0)", "thing(0, 1, 0, 0)");
        S.due(x, "labels(0)", 3);
        S.due("no number for it", x.thingIs(3, 1), 1);
        for (int k = 1; k <= 6; k++) S.due(x, "told(" + k + ")", 0);

        S.of(35, "BEYOND: no such SHEET. NONE: it is missing.");
        S.due(x, "labels(4)", BEYOND);
        S.due(x, "labels(-1)", BEYOND);
        S.due(x, "labels(3)", NONE);
    }

    private static void judge() {
        S.of(36, "Numbers of a SHEET are what is taken (-1: nothing) in the next HOURS BY DRAWS: how many are right, from the first on");
        ElevenYoghurts x = made("sheet(0, 16, 24)", "sheet(1, 8, 0)");
        S.due(x, "judge(1)", 0);
        S.due(x, "judge(0)", 0);
        for (int i = 0; i < 24; i++) x.put(0, i, -1);
        S.due(x, "judge(0)", 24);
        x.put(0, 23, 0);
        S.due(x, "judge(0)", 23);
        x.put(0, 0, -2);
        S.due(x, "judge(0)", 0);
        Calls.all(x, "person(0)", "thing(0, 0, 0, 0)", "put(0, 0, 0)", "put(0, 23, -1)");
        S.due(x, "judge(0)", 24);
        x.put(0, 1, 0);
        S.due(x, "judge(0)", 1);

        S.of(36, "(nothing changes; HOUR beyond 9999, too)");
        S.due(x, "count(2)", 1);
        S.due(x, "count(3)", 0);
        S.due(x, "count(5)", 0);
        S.due(x, "count(10)", 1);
        x = late("person(0)", "thing(0, 0, 0, 0)", "sheet(0, 8, 2)", "put(0, 1, -1)");
        S.due(x, "judge(0)", 2);
        S.due(x, "count(3)", 9999);

        S.of(36, "BEYOND: no such SHEET. NONE: it is missing.");
        S.due(x, "judge(4)", BEYOND);
        S.due(x, "judge(-1)", BEYOND);
        S.due(x, "judge(3)", NONE);
    }

    private static void image() {
        S.of(37, "All (but SHEETS, THE TRACE, what told() tells, and how often this was done) is kept as an IMAGE, in place of one ahead: how often that was done.");
        ElevenYoghurts x = new ElevenYoghurts();
        S.due(x, "image()", 1);
        S.due(x, "image()", 2);
        Calls.all(x, "person(0)", "sheet(0, 8, 1)", "voice(0, 1, 0)", "person(70)", "hours(1)");
        S.due(x, "restore()", 0);
        S.due("no PEOPLE", x.count(0), 0);
        S.due("SHEETS", x.put(0, 0, 1), 1);
        S.due("THE TRACE", x.count(9), 2);
        S.due("what told() tells", x.told(1), 1);
        S.due(x, "image()", 3);
        x.hours(2);
        S.due("in place of one ahead", x.image(), 4);
        S.due(x, "restore()", 2);
    }

    private static void restore() {
        S.of(38, "All is as the IMAGE has it, which stays: HOUR. NONE: there is none.");
        ElevenYoghurts x = made("person(0)", "hours(5)");
        S.due(x, "restore()", NONE);
        S.due(x, "count(3)", 5);
        x.image();
        for (int i = 0; i < 3; i++) {
            Calls.all(x, "hours(4)", "person(0)", "tell(3)", "feed(0, 3)", "seed(9)", "feel(0, 0, 1)");
            S.due(x, "restore()", 5);
            S.due(x, "count(0)", 1);
            S.due(x, "count(8)", 0);
            S.due(x, "count(7)", 0);
            S.due(x, "personIs(0, 2)", 30);
        }
    }

    private static void tell() {
        S.of(39, "One more number waits: how many. FULL: 24 wait.");
        ElevenYoghurts x = new ElevenYoghurts();
        for (int n = 1; n <= 24; n++) S.due(x, "tell(" + (n % 2 == 0 ? Integer.MAX_VALUE : Integer.MIN_VALUE) + ")", n);
        S.due(x, "tell(0)", FULL);
        S.due(x, "count(8)", 24);
        x.check();
        S.due(x, "tell(0)", 1);
    }

    private static void check() {
        S.of(40, "The numbers that wait (none do then) are HUNGER of the PEOPLE 0, 1, ..: 0; else 1 and the place (from 0) of the first that isn't so"
            + " (or for which there is nobody).");
        ElevenYoghurts x = new ElevenYoghurts();
        S.due(x, "check()", 0);
        x.tell(0);
        S.due(x, "check()", 1);
        S.due(x, "count(8)", 0);
        for (int p = 0; p < 8; p++) x.person(0);
        for (int p = 0; p < 8; p++) x.tell(10);
        S.due(x, "check()", 0);
        for (int p = 0; p < 9; p++) x.tell(10);
        S.due(x, "check()", 9);
        for (int p = 0; p < 8; p++) x.tell(p == 7 ? 11 : 10);
        S.due(x, "check()", 8);
        Calls.all(x, "tell(9)", "tell(9)");
        S.due(x, "check()", 1);
        S.due(x, "check()", 0);
    }

    private static void count() {
        S.of(41, "10 z (any number). BEYOND.");
        ElevenYoghurts x = made("seed(-1000000001)");
        S.due(x, "count(10)", BEYOND);
        S.due(x, "told(1)", 0);
        S.due(x, "count(11)", BEYOND);
        S.due(x, "count(-1)", BEYOND);
        S.due(x, "told(1)", 2);
    }

    private static void told() {
        S.of(42, "How many acts have answered an ERROR LOW - k (k 1 .. 6); BEYOND: another k (counted, too).");
        ElevenYoghurts x = new ElevenYoghurts();
        S.due(x, "told(0)", BEYOND);
        S.due(x, "told(1)", 1);
        S.due(x, "told(7)", BEYOND);
        S.due(x, "told(-1)", BEYOND);
        S.due(x, "told(1)", 3);
        S.due(x, "told(6)", 0);
        S.due(x, "told(-2147483648)", BEYOND);
        S.due(x, "told(2147483647)", BEYOND);
        S.due(x, "told(1)", 5);
        for (int i = 5; i < 500; i++) x.told(0);
        S.due(x, "told(1)", 500);
    }
}
