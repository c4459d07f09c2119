/** The document's Terms: each sentence of them that names a boundary has a test of its own. */
public final class TermsTest {
    private static final int LOW = -1000000000;
    private static final int BEYOND = LOW - 1;
    private static final int NONE = LOW - 2;
    private static final int STATE = LOW - 3;
    private static final int FULL = LOW - 4;
    private static final int KIND = LOW - 5;
    private static final int PARTED = LOW - 6;
    private static final String TERMS = "Terms";
    private static final Sentences S = new Sentences("TermsTest");

    public static void main(String[] args) {
        calls512();
        errorsByNumber();
        lowIsNoError();
        quotients();
        peopleAndThings();
        urges();
        wants();
        comes();
        anHour();
        draws();
        texts();
        faults();
        uses();
        thought();
        safest();
        peaceAndLocks();
        theRound();
        oddsWhoLost();
        voices();
        sheets();
        S.finish();
    }

    private static ElevenYoghurts made(String... calls) {
        ElevenYoghurts x = new ElevenYoghurts();
        Calls.all(x, calls);
        return x;
    }

    /** What text() answers to a TEXT. */
    private static int told(ElevenYoghurts x, int use, String text) {
        TextsTest.write(x, text);
        return x.text(use);
    }

    /** What APPEAL is by a TEXT, of LABEL 5, LOOK 6, AGE 7. */
    private static int worth(String text) {
        ElevenYoghurts x = new ElevenYoghurts();
        return told(x, 0, text) == 1 ? x.law(0, 5, 6, 7) : -1;
    }

    private static void calls512() {
        S.of("What it is", "An object is used for at most 512 calls after it has been made");
        ElevenYoghurts x = made("person(30)", "person(0)", "thing(1, 0, 3, 0)");
        for (int call = 4; call <= 510; call += 2) {
            S.due(x, "comes(0, 0)", 0);
            S.due(x, "anew(0)", 1);
        }
        S.due(x, "count(4)", 254);
    }

    // ---- ERRORS

    private static void errorsByNumber() {
        S.of(TERMS, "LOW is -1000000000; LOW - 1 BEYOND, LOW - 2 NONE, LOW - 3 STATE, LOW - 4 FULL, LOW - 5 KIND, LOW - 6 PARTED");
        ElevenYoghurts x = made("person(0)", "thing(0, 0, 0, 0)");
        for (int i = 0; i < 24; i++) x.tell(0);
        S.due(x, "personIs(1, 0)", -1000000001);
        S.due(x, "restore()", -1000000002);
        S.due(x, "anew(0)", -1000000003);
        S.due(x, "tell(0)", -1000000004);
        S.due(x, "as(0, 6)", -1000000005);
        S.due(x, "voice(0, 3, 7)", -1000000006);
        for (int k = 1; k <= 6; k++) S.due(x, "told(" + k + ")", 1);
    }

    private static void lowIsNoError() {
        S.of(TERMS, "ERRORS are answers below -1000000000");
        ElevenYoghurts x = made("person(0)");
        S.due(x, "voice(0, 0, -1000000000)", LOW);
        S.due(x, "seed(-1000000000)", 1);
        S.due(x, "seed(1)", LOW);
        for (int k = 1; k <= 6; k++) S.due(x, "told(" + k + ")", 0);
    }

    private static void quotients() {
        S.of(TERMS, "Quotients are cut toward 0.");
        ElevenYoghurts x = made("person(5)", "person(10)", "person(30)", "person(10)", "thing(3, 0, 1, 9)", "feel(1, 0, 99)", "feel(3, 0, 99)");
        S.due(x, "voice(0, 3, 9)", 1);
        S.due(x, "voice(0, 3, -9)", -1);
        S.due(x, "voice(2, 2, -3)", 2);
        S.due("(0-7)/2+10", worth("(0-7)/2+10"), 7);
        S.due("(0-7)%2+10", worth("(0-7)%2+10"), 9);
        S.due("half of HUNGER 99, APPEAL 3: " + x.thingIs(0, 7), x.urge(1, 0), 3 + 49 - 20);
        x.become(1, 20);
        x.feel(1, 1, 1);
        S.due("15 and half of APPEAL 3", x.urge(1, 0), 16);
    }

    // ---- 1. PEOPLE and THINGS

    private static void peopleAndThings() {
        S.of(TERMS, "PEOPLE 0, 1, .. (at most 8)");
        ElevenYoghurts x = new ElevenYoghurts();
        for (int p = 0; p < 8; p++) S.due(x, "person(0)", p);
        S.due(x, "person(0)", FULL);
        S.due(x, "personIs(7, 1)", 0);
        S.due(x, "personIs(8, 1)", BEYOND);
        S.due(x, "count(0)", 8);

        S.of(TERMS, "of KINDS: 0 PERSON, 1 TAKER under PERSON, 2 AVENGER under PERSON, 3 MISTAKEN under PERSON, 4 HABITUAL under TAKER,"
            + " 5 JUST under AVENGER, 6 CLEANER under PERSON");
        S.due(made("person(69)"), "as(0, 6)", 9);
        S.due(new ElevenYoghurts(), "person(70)", BEYOND);
        S.due(made("person(69)"), "as(0, 7)", BEYOND);
        int[] above = {-1, 0, 0, 0, 1, 2, 0};
        for (int kind = 0; kind < 7; kind++) {
            for (int of = 0; of < 7; of++) {
                boolean is = of == kind || of == 0 || of == above[kind];
                S.due(made("person(" + kind + "4)"), "as(0, " + of + ")", is ? 4 : KIND);
            }
        }

        S.of(TERMS, "each with a number m (0 .. 9)");
        x = made("person(0)", "person(9)", "person(10)");
        S.due(x, "as(0, 0)", 0);
        S.due(x, "as(1, 0)", 9);
        S.due(x, "personIs(1, 0)", 0);
        S.due(x, "as(2, 1)", 0);

        S.of(TERMS, "HUNGER (0 .. 99; 10 at first)");
        S.due(x, "feel(0, 0, 99)", 10);
        S.due(x, "feel(0, 0, 100)", BEYOND);
        S.due(x, "feel(0, 0, 0)", 99);
        S.due(x, "feel(0, 0, -1)", BEYOND);
        S.due(x, "personIs(0, 2)", 0);

        S.of(TERMS, "ROBBED (0 .. 9; 0 at first)");
        S.due(x, "feel(0, 1, 9)", 0);
        S.due(x, "feel(0, 1, 10)", BEYOND);
        S.due(x, "feel(0, 1, 0)", 9);
        S.due(x, "feel(0, 1, -1)", BEYOND);
        S.due(x, "personIs(0, 3)", 0);

        S.of(TERMS, "a SUSPECT (another one of the PEOPLE, or nobody, as at first)");
        S.due(x, "feel(1, 2, 0)", -1);
        S.due(x, "feel(1, 2, 2)", 0);
        S.due(x, "feel(1, 2, 1)", BEYOND);
        S.due(x, "feel(1, 2, 3)", BEYOND);
        S.due(x, "feel(1, 2, -2)", BEYOND);
        S.due(x, "feel(1, 2, -1)", 2);
        S.due(x, "personIs(1, 4)", -1);

        S.of(TERMS, "THINGS 0, 1, .. (at most 10)");
        for (int t = 0; t < 10; t++) S.due(x, "thing(0, 0, 0, 0)", t);
        S.due(x, "thing(0, 0, 0, 0)", FULL);
        S.due(x, "thingIs(9, 0)", 0);
        S.due(x, "thingIs(10, 0)", BEYOND);
        S.due(x, "count(1)", 10);

        range("a LABEL (0 none, 1 a name, 2 a note)", 0, 2);
        range("a LOOK (0 full, 1 half, 2 open, 3 like all others)", 1, 3);
        range("an AGE (0 .. 9)", 2, 9);
        range("LOCKED (1) or not (0, at first)", 3, 1);

        S.of(TERMS, "in THE FRIDGE (at first), or gone");
        x = made("person(0)", "thing(0, 0, 0, 0)");
        S.due(x, "thingIs(0, 4)", 1);
        S.due(x, "comes(0, 1)", 0);
        S.due(x, "thingIs(0, 4)", 0);
    }

    /** What of a THING goes from 0 on up to the most, by thing() (but LOCKED) and by mark(). */
    private static void range(String quoted, int what, int most) {
        S.of(TERMS, quoted);
        int place = new int[] {1, 2, 3, 6}[what];
        ElevenYoghurts x = made("person(0)", "thing(0, 0, 0, 0)");
        S.due(x, "thingIs(0, " + place + ")", 0);
        S.due(x, "mark(0, " + what + ", " + most + ")", 0);
        S.due(x, "mark(0, " + what + ", " + (most + 1) + ")", BEYOND);
        S.due(x, "mark(0, " + what + ", -1)", BEYOND);
        S.due(x, "mark(0, " + what + ", 0)", most);
        S.due(x, "thingIs(0, " + place + ")", 0);
        if (what == 3) return;
        int[][] given = {{most}, {most + 1}, {-1}};
        int[] want = {1, BEYOND, BEYOND};
        for (int i = 0; i < 3; i++) {
            int[] marks = new int[3];
            marks[what] = given[i][0];
            S.due(x, "thing(0, " + marks[0] + ", " + marks[1] + ", " + marks[2] + ")", want[i]);
        }
        S.due(x, "thingIs(1, " + place + ")", most);
    }

    /** 0 of a KIND, and 1; THING 0 is 0's, THING 1 is 1's. */
    private static ElevenYoghurts pair(int km, String... calls) {
        ElevenYoghurts x = made("person(" + km + ")", "person(0)", "thing(0, 0, 0, 0)", "thing(1, 0, 0, 0)");
        Calls.all(x, calls);
        return x;
    }

    private static void urges() {
        S.of(TERMS, "PERSON: of his own 50 and his HUNGER, of others' 0.");
        S.due(pair(9, "feel(0, 0, 0)"), "urge(0, 0)", 50);
        S.due(pair(9, "feel(0, 0, 99)"), "urge(0, 0)", 149);
        S.due(pair(9, "feel(0, 0, 99)", "feel(0, 1, 9)", "feel(0, 2, 1)", "mark(1, 1, 3)"), "urge(0, 1)", 0);

        S.of(TERMS, "TAKER: of his own as PERSON; of others' APPEAL and half his HUNGER (cut), less 20 (0 at least).");
        S.due(pair(19, "feel(0, 0, 0)"), "urge(0, 0)", 50);
        S.due(pair(19, "feel(0, 0, 0)"), "urge(0, 1)", 0);
        S.due(pair(19, "feel(0, 0, 1)"), "urge(0, 1)", 0);
        S.due(pair(19, "feel(0, 0, 2)"), "urge(0, 1)", 1);
        S.due(pair(19, "feel(0, 0, 99)"), "urge(0, 1)", 49);
        S.due(pair(19, "feel(0, 0, 0)", "mark(1, 2, 9)"), "urge(0, 1)", 0);

        S.of(TERMS, "AVENGER: of his own, or if he is ROBBED 0 times, as PERSON; else 15 times ROBBED and half of APPEAL (cut).");
        S.due(pair(29), "urge(0, 1)", 0);
        S.due(pair(29, "feel(0, 1, 1)"), "urge(0, 1)", 15 + 10);
        S.due(pair(29, "feel(0, 1, 9)"), "urge(0, 1)", 135 + 10);
        S.due(pair(29, "feel(0, 1, 1)", "mark(1, 2, 1)"), "urge(0, 1)", 15 + 8);
        S.due(pair(29, "feel(0, 1, 9)"), "urge(0, 0)", 60);

        S.of(TERMS, "MISTAKEN: APPEAL, whosever it is.");
        S.due(pair(39), "urge(0, 0)", 20);
        S.due(pair(39, "mark(1, 1, 3)"), "urge(0, 1)", 50);
        S.due(pair(39, "mark(0, 2, 9)"), "urge(0, 0)", 0);

        S.of(TERMS, "HABITUAL: as TAKER, and m (of his own, too).");
        S.due(pair(40), "urge(0, 0)", 60);
        S.due(pair(49), "urge(0, 0)", 69);
        S.due(pair(49), "urge(0, 1)", 20 + 5 - 20 + 9);
        S.due(pair(49, "mark(1, 2, 9)"), "urge(0, 1)", 9);
        S.due(pair(40, "mark(1, 2, 9)"), "urge(0, 1)", 0);

        S.of(TERMS, "JUST: of his own and of those of his SUSPECT as AVENGER, else 0.");
        S.due(pair(59, "feel(0, 1, 9)"), "urge(0, 0)", 60);
        S.due(pair(59, "feel(0, 1, 9)"), "urge(0, 1)", 0);
        S.due(pair(59, "feel(0, 1, 9)", "feel(0, 2, 1)"), "urge(0, 1)", 145);
        S.due(pair(59, "feel(0, 1, 0)", "feel(0, 2, 1)"), "urge(0, 1)", 0);
        S.due(pair(59, "person(0)", "feel(0, 1, 9)", "feel(0, 2, 2)"), "urge(0, 1)", 0);

        S.of(TERMS, "CLEANER: 30, if its AGE is m or more, else 0, whosever it is.");
        S.due(pair(64, "mark(1, 2, 3)"), "urge(0, 1)", 0);
        S.due(pair(64, "mark(1, 2, 4)"), "urge(0, 1)", 30);
        S.due(pair(64, "mark(0, 2, 5)"), "urge(0, 0)", 30);
        S.due(pair(60), "urge(0, 1)", 30);
        S.due(pair(69, "mark(1, 2, 9)"), "urge(0, 1)", 30);
        S.due(pair(69, "mark(0, 2, 8)"), "urge(0, 0)", 0);
    }

    private static void wants() {
        S.of(TERMS, "of THINGS that are in THE FRIDGE and not LOCKED");
        S.due(pair(30), "wants(0, 0, 0)", 0);
        S.due(pair(30, "mark(0, 3, 1)"), "wants(0, 0, 0)", 1);
        S.due(pair(30, "comes(0, 0)"), "wants(0, 0, 0)", 1);
        S.due(pair(30, "mark(0, 3, 1)", "mark(1, 3, 1)"), "wants(0, 0, 0)", -1);
        S.due(pair(30, "friday(0)"), "wants(0, 0, 0)", -1);
        S.due(made("person(30)"), "wants(0, 0, 0)", -1);

        S.of(TERMS, "that one with the greatest URGE less GUARD (of his own without GUARD)");
        S.due(pair(30, "mark(0, 0, 2)", "mark(1, 1, 1)"), "wants(0, 1, 0)", 0);
        S.due(pair(30, "mark(0, 0, 2)", "mark(1, 1, 1)"), "wants(0, 0, 0)", 1);
        S.due(pair(30, "mark(0, 0, 2)"), "wants(0, 1, 1)", 20);
        S.due(pair(30, "mark(0, 3, 1)", "mark(1, 1, 3)", "mark(1, 0, 1)"), "wants(0, 1, 1)", 50 - 30);

        S.of(TERMS, "One WANTS, SEEN (1) or not (0)");
        S.due(pair(30, "mark(0, 3, 1)", "mark(1, 1, 1)"), "wants(0, 0, 1)", 30);
        S.due(pair(30, "mark(0, 3, 1)", "mark(1, 1, 1)"), "wants(0, 1, 1)", 10);

        S.of(TERMS, "if this is above 0");
        S.due("1", above(21), 1);
        S.due("0", above(20), -1);
        S.due("-1", above(19), -1);

        S.of(TERMS, "of several the least");
        S.due(pair(30), "wants(0, 0, 0)", 0);
        S.due(pair(30, "thing(1, 0, 0, 0)", "mark(0, 3, 1)"), "wants(0, 0, 0)", 1);
        S.due(pair(30, "thing(1, 0, 1, 0)", "thing(1, 0, 1, 0)"), "wants(0, 0, 0)", 2);
    }

    /** What a MISTAKEN wants, SEEN, whom another's THING of this APPEAL tempts: its GUARD is 20. */
    private static int above(int appeal) {
        ElevenYoghurts x = pair(30, "mark(0, 3, 1)");
        told(x, 0, "" + appeal);
        return x.wants(0, 1, 0);
    }

    private static void comes() {
        S.of(TERMS, "it is gone; a CLEANER throws it out (THROWN is 1 more, and nothing else)");
        ElevenYoghurts x = pair(60, "feel(0, 0, 50)");
        S.due(x, "comes(0, 0)", 0);
        S.due(x, "comes(0, 0)", 1);
        S.due(x, "count(2)", 0);
        S.due(x, "count(6)", 2);
        S.due(x, "personIs(0, 2)", 50);
        S.due(x, "personIs(1, 3)", 0);
        S.due(x, "count(4)", 0);
        S.due(x, "count(5)", 0);

        S.of(TERMS, "all others eat it: HUNGER is 0; EATEN is 1 more, if it was his own");
        x = pair(30, "feel(0, 0, 50)");
        S.due(x, "comes(0, 0)", 0);
        S.due(x, "personIs(0, 2)", 0);
        S.due(x, "count(5)", 1);
        S.due(x, "count(4)", 0);
        S.due(x, "personIs(0, 3)", 0);

        S.of(TERMS, "else STOLEN is 1 more, and its OWNER is ROBBED once more (9 at most)");
        x = pair(30, "mark(0, 3, 1)", "feel(1, 1, 8)", "feel(0, 0, 50)");
        S.due(x, "comes(0, 0)", 1);
        S.due(x, "personIs(0, 2)", 0);
        S.due(x, "count(4)", 1);
        S.due(x, "count(5)", 0);
        S.due(x, "personIs(1, 3)", 9);
        Calls.all(x, "anew(1)", "comes(0, 0)");
        S.due(x, "count(4)", 2);
        S.due(x, "personIs(1, 3)", 9);

        S.of(TERMS, "EATEN, STOLEN, THROWN (0 at first) are held at 9999");
        x = new ElevenYoghurts();
        for (int what = 4; what <= 6; what++) S.due(x, "count(" + what + ")", 0);
    }

    private static void anHour() {
        S.of(TERMS, "HOUR is 1 more; 0 .. 9999; 0 at first");
        ElevenYoghurts x = new ElevenYoghurts();
        S.due(x, "count(3)", 0);
        S.due(x, "hours(1)", 0);
        S.due(x, "count(3)", 1);
        for (int i = 0; i < 249; i++) x.hours(40);
        S.due(x, "hours(38)", 0);
        S.due(x, "count(3)", 9999);
        S.due(x, "hours(1)", STATE);
        S.due(x, "count(3)", 9999);

        S.of(TERMS, "HUNGER of all is 4 more (99 at most)");
        int[] before = {0, 94, 95, 96, 98, 99};
        x = new ElevenYoghurts();
        for (int p = 0; p < before.length; p++) Calls.all(x, "person(0)", "feel(" + p + ", 0, " + before[p] + ")");
        x.hours(1);
        for (int p = 0; p < before.length; p++) S.due(x, "personIs(" + p + ", 2)", Math.min(99, before[p] + 4));

        S.of(TERMS, "if HOUR is a multiple of 8 then, AGE of all THINGS in THE FRIDGE is 1 more (9 at most)");
        x = made("person(0)", "thing(0, 0, 0, 0)", "thing(0, 0, 0, 8)", "thing(0, 0, 0, 9)", "thing(0, 0, 0, 0)", "comes(0, 0)");
        Calls.all(x, "mark(1, 3, 1)", "mark(2, 3, 1)", "mark(3, 3, 1)", "hours(7)");
        S.due(x, "thingIs(3, 3)", 0);
        S.due(x, "thingIs(1, 3)", 8);
        x.hours(1);
        S.due(x, "thingIs(3, 3)", 1);
        S.due(x, "thingIs(1, 3)", 9);
        S.due(x, "thingIs(2, 3)", 9);
        S.due(x, "thingIs(0, 3)", 0);
        x.hours(7);
        S.due(x, "thingIs(3, 3)", 1);
        x.hours(1);
        S.due(x, "thingIs(3, 3)", 2);
        S.due(x, "thingIs(1, 3)", 9);
    }

    /** The int that comes after z, by longs. */
    private static int after(int z) {
        return (int) (z * 1103515245L + 12345L);
    }

    /** What z gives, by longs. */
    private static int given(int z) {
        return (int) ((z & 0xffffffffL) / 256);
    }

    private static void draws() {
        S.of(TERMS, "BY DRAWS an HOUR: if there are PEOPLE");
        ElevenYoghurts x = made("hours(3)");
        S.due(x, "count(10)", 1);
        S.due(x, "count(3)", 3);

        S.of(TERMS, "DRAWS: z is told (1 at first); each makes it z * 1103515245 + 12345 (an int), and gives z >>> 8.");
        int[] seeds = {1, 0, -1, 2, 77, 1000, -1000, Integer.MIN_VALUE, Integer.MAX_VALUE, 123456789};
        for (int seed : seeds) {
            int z1 = after(seed);
            x = made("person(0)", "seed(" + seed + ")", "hours(1)");
            S.due(x, "count(10)", after(z1));
        }

        S.of(TERMS, "a draw's rest by how many there are: who; a draw's rest by 2: SEEN; he COMES; then an HOUR goes.");
        for (int people = 1; people <= 8; people++) {
            for (int seed : seeds) {
                x = new ElevenYoghurts();
                for (int p = 0; p < people; p++) Calls.all(x, "person(30)", "feel(" + p + ", 0, 50)");
                Calls.all(x, "thing(0, 0, 3, 0)", "seed(" + seed + ")");
                told(x, 0, "50");
                told(x, 1, "s*99");
                int who = given(after(seed)) % people;
                boolean seen = given(after(after(seed))) % 2 == 1;
                boolean takes = who == 0 || !seen;
                x.hours(1);
                S.due(people + " PEOPLE, seed " + seed + ": who took it", x.thingIs(0, 5), takes ? who : -1);
                S.due("HUNGER of who came", x.personIs(who, 2), takes ? 4 : 54);
            }
        }
    }

    // ---- 2. TEXTS

    private static void reads(String text, int want) {
        S.due("text(0) of " + text, told(new ElevenYoghurts(), 0, text), want);
    }

    private static void texts() {
        S.of(TERMS, "THE TAPE (bytes, at most 60)");
        ElevenYoghurts x = new ElevenYoghurts();
        TextsTest.write(x, "1+".repeat(29) + "1");
        S.due(x, "count(7)", 59);
        S.due(x, "feed(48, 2)", FULL);
        S.due(x, "feed(48, 1)", 60);
        S.due(x, "feed(48, 1)", FULL);
        S.due(x, "count(7)", 60);
        S.due(x, "text(0)", 1);
        S.due(x, "law(0, 0, 0, 0)", 29 + 10);
        S.due(x, "feed(48, 1)", 1);

        S.of(TERMS, "a NUMBER of 1 to 4 digits");
        S.due("0", worth("0"), 0);
        S.due("9999=9999", worth("9999=9999"), 1);
        S.due("0042", worth("0042"), 42);
        reads("00000", -10 - 4);
        reads("12345", -10 - 4);
        reads("l+12345", -10 - 6);

        S.of(TERMS, "No blanks.");
        reads(" l", -10);
        reads("l +o", -11);
        reads("l+ o", -12);
        reads("l ", -11);
        reads("l\n", -11);

        S.of(TERMS, "At most 5 of ! and ( are open at once.");
        reads("!!!!!l", 1);
        reads("!!!!!!l", -10 - 5);
        reads("(((((l)))))", 1);
        reads("((((((l))))))", -10 - 5);
        reads("(!(!(l)))", 1);
        reads("(!(!(!l)))", -10 - 5);
        reads("!!!!(!l)", -10 - 5);
        reads("(((((l)))))+(((((o)))))+!!!!!a", 1);
        reads("(!!!!l)+!!!!!o+(!!!!!a)", -10 - 20);

        S.of(TERMS, "Ints that wrap");
        S.due("1000*1000*1000*3<0", worth("1000*1000*1000*3<0"), 1);
        S.due("2^31-1+1<0", worth("8192*8192*32-1+1<0"), 1);
        S.due("0-2^31-1>0", worth("0-8192*8192*32-1>0"), 1);
        S.due("2^32", worth("8192*8192*64"), 0);
        S.due("-2^31 by -1", worth("(0-8192*8192*32)/(0-1)<0"), 1);
        S.due("-2^31 by -1, the rest", worth("(0-8192*8192*32)%(0-1)=0"), 1);

        S.of(TERMS, "/ cut, % the rest that it leaves, both by 0 are 0");
        S.due("7/2", worth("7/2"), 3);
        S.due("(0-7)/2+50", worth("(0-7)/2+50"), 47);
        S.due("7%2+50", worth("7%2+50"), 51);
        S.due("(0-7)%2+50", worth("(0-7)%2+50"), 49);
        S.due("7%(0-2)+50", worth("7%(0-2)+50"), 51);
        S.due("7/0+50", worth("7/0+50"), 50);
        S.due("7%0+50", worth("7%0+50"), 50);
        S.due("0/0+50", worth("0/0+50"), 50);
        S.due("7/(l-5)+50", worth("7/(l-5)+50"), 50);

        S.of(TERMS, "| & < = > ! are 1 or 0, what is not 0 being true; all is worked out");
        String[] ones = {"7|0", "0|7", "7|9", "(0-1)|0", "7&9", "(0-1)&7", "1<2", "0-1<0", "2=2", "2>1", "0>0-1", "!0", "!!7", "1|1/0", "!(0&1)"};
        for (String text : ones) S.due(text, worth(text), 1);
        String[] noughts = {"0|0", "7&0", "0&7", "0&0", "2<2", "3<2", "2=3", "2>2", "2>3", "!1", "!7", "!(0-1)", "1&1/0"};
        for (String text : noughts) S.due(text, worth(text), 0);
    }

    private static void faults() {
        S.of(TERMS, "FAULT: the place of the first byte with which no TEXT goes on");
        reads("+", -10);
        reads(")", -10);
        reads("x", -10);
        reads("lo", -11);
        reads("l)", -11);
        reads("l!", -11);
        reads("l++o", -12);
        reads("l+)", -12);
        reads("()", -11);
        reads("(l))", -13);
        reads("l,", -11);
        reads("5l", -11);
        reads("\0", -10);
        reads("\u00ec", -10);

        S.of(TERMS, "how many there are, if it ends too early");
        reads("", -10);
        reads("(", -11);
        reads("!", -11);
        reads("l+", -12);
        reads("(l", -12);
        reads("l<", -12);
        reads("(l|o&", -15);
        reads("l+".repeat(30), -70);
        reads("((((l=o))))&" + "9999+".repeat(9) + "(l|", -70);

        S.of(TERMS, "A: B { & B }. B: S, or S < S, S = S, S > S.");
        reads("l<o<a", -13);
        reads("l=o=a", -13);
        reads("l>o<a", -13);
        reads("(l<o)<a", 1);
        reads("l<(o<a)", 1);
        reads("l<o&o<a|a<l", 1);
        reads("!l<o", 1);

        S.of(TERMS, "0 APPEAL: NAMES l LABEL, o LOOK, a AGE");
        reads("l+o+a", 1);
        reads("s", -10);
        reads("L", -10);

        S.of(TERMS, "1 GUARD: NAMES l LABEL, s SEEN, o LOOK");
        S.due("l+s+o", told(new ElevenYoghurts(), 1, "l+s+o"), 1);
        S.due("a", told(new ElevenYoghurts(), 1, "a"), -10);
        ElevenYoghurts x = pair(30, "mark(0, 3, 1)", "mark(1, 0, 2)", "mark(1, 1, 3)");
        told(x, 1, "l*10+s*4+o");
        S.due(x, "guard(1, 1)", 27);
        S.due(x, "wants(0, 1, 1)", 50 - 27);
        S.due(x, "wants(0, 0, 1)", 50 - 23);
    }

    private static void uses() {
        S.of(TERMS, "0 APPEAL: NAMES l LABEL, o LOOK, a AGE; held within 0 .. 99");
        String[] texts = {"0-1", "0", "99", "100", "0-8192*8192*32", "8192*8192*32-1"};
        int[] held = {0, 0, 99, 99, 0, 99};
        for (int i = 0; i < texts.length; i++) S.due("APPEAL of " + texts[i], worth(texts[i]), held[i]);

        S.of(TERMS, "without a TEXT 20 and 10 times LOOK, less 3 times AGE (ints that wrap; held likewise)");
        ElevenYoghurts x = new ElevenYoghurts();
        S.due(x, "law(0, 9, 0, 0)", 20);
        S.due(x, "law(0, 0, 3, 9)", 23);
        S.due(x, "law(0, 0, 0, 6)", 2);
        S.due(x, "law(0, 0, 0, 7)", 0);
        S.due(x, "law(0, 0, 7, 0)", 90);
        S.due(x, "law(0, 0, 8, 0)", 99);
        S.due(x, "law(0, 0, 8, 1)", 97);
        S.due(x, "law(0, 0, 214748364, 0)", 0);
        S.due(x, "law(0, 0, 429496730, 0)", 24);
        S.due(x, "law(0, 0, 0, 1431655766)", 18);
        S.due(x, "law(0, 0, -2147483648, -2147483648)", 0);

        S.of(TERMS, "1 GUARD: NAMES l LABEL, s SEEN, o LOOK; held within 0 .. 99");
        for (int i = 0; i < texts.length; i++) {
            x = new ElevenYoghurts();
            told(x, 1, texts[i]);
            S.due("GUARD of " + texts[i], x.law(1, 0, 0, 0), held[i]);
        }

        S.of(TERMS, "without a TEXT 10 times LABEL and 20 times SEEN (likewise)");
        x = new ElevenYoghurts();
        S.due(x, "law(1, 0, 0, 9)", 0);
        S.due(x, "law(1, 2, 1, 9)", 40);
        S.due(x, "law(1, 9, 0, 0)", 90);
        S.due(x, "law(1, 10, 0, 0)", 99);
        S.due(x, "law(1, 0, 5, 0)", 99);
        S.due(x, "law(1, -1, 0, 0)", 0);
        S.due(x, "law(1, 429496730, 0, 0)", 4);
        S.due(x, "law(1, 0, 214748365, 0)", 4);
        S.due(x, "law(1, 214748364, 1, 0)", 0);
    }

    // ---- 3. what is only thought

    private static void thought() {
        S.of(TERMS, "(All this is only thought, as all is now; z, too, is as it was.)");
        ElevenYoghurts x = made("person(10)", "person(30)", "person(60)", "thing(0, 0, 2, 3)", "thing(1, 1, 3, 0)", "thing(2, 0, 0, 9)", "sheet(0, 8, 1)");
        String[] calls = {"trap(0, 0)", "safest(1)", "lock(1)", "round(1, 0)", "odds(0, 1)", "who(0)", "lost(60, 0)", "lost(60, 1)", "judge(0)"};
        for (String call : calls) {
            Calls.answer(x, call);
            S.due("z after " + call, x.count(10), 1);
            S.due("HOUR after " + call, x.count(3), 0);
            S.due("THE FRIDGE after " + call, x.count(2), 3);
            S.due("EATEN, STOLEN, THROWN after " + call, x.count(4) + x.count(5) + x.count(6), 0);
            S.due("LABEL after " + call, x.thingIs(1, 1), 1);
            S.due("LOCKED after " + call, x.thingIs(0, 6) + x.thingIs(1, 6) + x.thingIs(2, 6), 0);
            S.due("HUNGER after " + call, x.personIs(0, 2) + x.personIs(1, 2) + x.personIs(2, 2), 30);
        }

        S.of(TERMS, "TRAP: the PEOPLE who WANT a THING, as a set (bits).");
        x = new ElevenYoghurts();
        for (int p = 0; p < 8; p++) x.person(30);
        x.thing(0, 0, 3, 0);
        S.due(x, "trap(0, 1)", 255);
        x.mark(0, 0, 2);
        told(x, 1, "50");
        S.due(x, "trap(0, 0)", 1);
        x.mark(0, 3, 1);
        S.due(x, "trap(0, 0)", 0);
    }

    private static void safest() {
        S.of(TERMS, "SAFEST of a THING in THE FRIDGE: the LABEL with which the fewest others than its OWNER WANT it");
        for (int owner = 0; owner < 3; owner++) {
            ElevenYoghurts x = made("person(30)", "person(30)", "person(30)", "thing(" + owner + ", 2, 3, 0)");
            told(x, 0, "(l=0)*30");
            S.due("all want it by LABEL 0 alone, OWNER " + owner, x.safest(0), 1);
            told(x, 1, "(l=0)*40");
            S.due("none but the OWNER wants it by LABEL 0, OWNER " + owner, x.safest(0), 0);
            told(x, 0, "(l<2)*30");
            told(x, 1, "l=1");
            S.due("by LABELS 0 and 1, OWNER " + owner, x.safest(0), 2);
        }

        S.of(TERMS, "(who WANTS it SEEN and not counts twice)");
        // Two TAKERS with 35 and 25: 4 by no label, 3 (not 2) by a name, 2 by a note.
        S.due(made("person(10)", "person(10)", "person(0)", "thing(2, 0, 2, 0)", "feel(0, 0, 30)"), "safest(0)", 2);

        S.of(TERMS, "SAFEST of a THING in THE FRIDGE: the LABEL with which the fewest others than its OWNER WANT it (who WANTS it SEEN and not counts twice);"
            + " of several the least.");
        S.due(made("person(0)", "thing(0, 2, 3, 0)"), "safest(0)", 0);
        S.due(made("person(10)", "person(10)", "person(0)", "thing(2, 0, 2, 0)"), "safest(0)", 1);
        S.due(made("person(30)", "person(0)", "thing(1, 2, 3, 0)", "mark(0, 3, 1)"), "safest(0)", 0);
    }

    private static void peaceAndLocks() {
        S.of(TERMS, "PEACE: nobody, not SEEN, WANTS what is another's (a CLEANER likewise).");
        S.due(new ElevenYoghurts(), "lock(0)", 0);
        S.due(pair(30), "lock(0)", 0);
        S.due("APPEAL 40 less 20, by no 0", pair(30, "mark(1, 1, 2)", "mark(1, 0, 2)", "mark(0, 3, 1)").lock(0), 1);
        ElevenYoghurts x = pair(30, "mark(1, 1, 3)", "mark(0, 3, 1)");
        told(x, 1, "99-s*99");
        S.due("wanted by one who is SEEN", x.trap(1, 1), 3);
        S.due(x, "lock(0)", 0);
        S.due(pair(60, "mark(0, 3, 1)"), "lock(1)", 2);
        S.due(pair(61), "lock(1)", 0);

        S.of(TERMS, "LOCKS: the fewest THINGS in THE FRIDGE that aren't LOCKED, such that with these LOCKED, too, there is PEACE");
        x = pair(10, "feel(0, 0, 99)", "thing(1, 0, 0, 0)", "thing(1, 2, 0, 0)", "mark(0, 3, 1)");
        S.due(x, "lock(0)", 3);
        S.due(x, "lock(1)", 14);
        x.mark(2, 3, 1);
        S.due(x, "lock(1)", 10);
        x.comes(1, 0);
        S.due(x, "lock(1)", 8);
        x.mark(0, 3, 0);
        S.due("his own shields them all", x.lock(1), 0);
        x.friday(0);
        S.due(x, "lock(1)", 0);
        S.due(x, "lock(0)", 0);
    }

    private static void theRound() {
        S.of(TERMS, "he ROBS the OWNER of what he WANTS, not SEEN, if that is another");
        S.due(pair(0), "round(0, 0)", 0);
        S.due(pair(30), "round(0, 0)", 0);
        S.due(pair(30, "mark(0, 3, 1)"), "round(0, 0)", 1);
        S.due(pair(30, "friday(0)"), "round(0, 0)", 0);

        S.of(TERMS, "without a ring: how many robbings there are, and 0");
        ElevenYoghurts x = chain(8, -1);
        for (int p = 0; p < 8; p++) {
            S.due(x, "round(" + p + ", 0)", 7 - p);
            S.due(x, "round(" + p + ", 1)", 0);
        }

        S.of(TERMS, "or one comes again: how many there are ahead of the ring (those from the first on that are not of it), how many are of the ring");
        for (int back = 0; back < 7; back++) {
            x = chain(8, back);
            for (int p = 0; p < 8; p++) {
                S.due("back to " + back + ": round(" + p + ", 0)", x.round(p, 0), Math.max(0, back - p));
                S.due("back to " + back + ": round(" + p + ", 1)", x.round(p, 1), 8 - back);
            }
        }
    }

    /** Each of so many JUST robs the next; the last one robs whom we say (-1: nobody). */
    private static ElevenYoghurts chain(int many, int back) {
        ElevenYoghurts x = new ElevenYoghurts();
        for (int p = 0; p < many; p++) Calls.all(x, "person(50)", "thing(" + p + ", 0, 0, 0)", "feel(" + p + ", 1, 9)");
        for (int p = 0; p < many; p++) x.feel(p, 2, p + 1 < many ? p + 1 : back);
        return x;
    }

    private static void oddsWhoLost() {
        S.of(TERMS, "a fraction in lowest terms (0 is 0 by 1)");
        ElevenYoghurts x = pair(30, "person(0)", "person(0)", "mark(0, 3, 1)", "mark(1, 1, 0)");
        S.due("3 of 8", x.odds(1, 0) * 10 + x.odds(1, 1), 38);
        x.mark(1, 1, 1);
        S.due("4 of 8", x.odds(1, 0) * 10 + x.odds(1, 1), 12);
        S.due("0 of 8", x.odds(0, 0) * 10 + x.odds(0, 1), 1);
        S.due("2 of 2", made("person(0)", "thing(0, 0, 0, 0)").odds(0, 1), 1);

        S.of(TERMS, "would take just the THINGS that a SHEET tells, in this order (all, by none)");
        x = pair(30, "sheet(0, 8, 0)", "sheet(1, 8, 2)", "put(1, 1, 1)", "sheet(2, 8, 2)", "put(2, 0, 1)", "sheet(3, 8, 3)", "put(3, 1, 1)");
        S.due(x, "who(0)", 3);
        S.due("0, 1", x.who(1), 1);
        S.due("1, 0", x.who(2), 0);
        S.due("0, 1, and 0 again, which is gone", x.who(3), 0);
        S.due(made("sheet(0, 8, 0)"), "who(0)", 0);

        S.of(TERMS, "LOST by n HOURS BY DRAWS from now on: how many are STOLEN then (as counted), how many THINGS are in THE FRIDGE then (HOUR beyond 9999, too)");
        x = new ElevenYoghurts();
        for (int i = 0; i < 250; i++) x.hours(i < 249 ? 40 : 39);
        Calls.all(x, "person(30)", "thing(0, 0, 3, 0)", "person(0)", "thing(1, 0, 2, 0)");
        x.comes(0, 0);
        x.comes(0, 0);
        x.anew(0);
        S.due(x, "lost(0, 0)", 1);
        S.due(x, "lost(0, 1)", 1);
        S.due(x, "lost(60, 0)", 1);
        S.due(x, "lost(60, 1)", 0);
        S.due(x, "count(3)", 9999);
    }

    // ---- 4. VOICES, SHEETS

    private static void voices() {
        S.of(TERMS, "VOICES of a Person, with a number x (ints that wrap)");
        ElevenYoghurts x = made("person(1)", "person(0)", "person(30)", "person(31)", "person(40)", "person(59)");
        S.due(x, "voice(1, 0, 2147483647)", Integer.MIN_VALUE);
        S.due(x, "voice(0, 1, 1073741824)", Integer.MIN_VALUE);
        S.due(x, "voice(0, 2, -2147483648)", -1);
        S.due(x, "voice(1, 3, -2147483648)", Integer.MIN_VALUE);
        S.due(x, "voice(5, 1, 2147483647)", -2 * (Integer.MIN_VALUE + 5));

        S.of(TERMS, "13 parts: x by (m - k), cut (PARTED if that is 0; that is all that voice() answers then)");
        x = made("person(0)", "person(12)", "person(12)", "person(45)");
        S.due(x, "voice(0, 3, 0)", PARTED);
        S.due(x, "voice(0, 3, 5)", PARTED);
        S.due(x, "voice(1, 3, 0)", 0 + 2 * (1 + 1 - 4));
        S.due(x, "voice(2, 3, 7)", PARTED);
        S.due(x, "voice(3, 3, 7)", 7 / 2 + 2 * 3 * (1 + 3 - 4));
        S.due(x, "told(6)", 3);

        S.of(TERMS, "THE TRACE: the numbers of BODIES of the latest voice(), as they began (what stands left is worked out first), the first 30.");
        S.due(x, "voice(3, 3, 7)", 3);
        int[] bodies = {21, 13, 11, 50, 20, 10};
        S.due(x, "count(9)", bodies.length);
        for (int i = 0; i < bodies.length; i++) S.due(x, "body(" + i + ")", bodies[i]);
        S.due(x, "body(6)", NONE);
        S.due(x, "voice(0, 0, 7)", 7);
        S.due(x, "count(9)", 1);
        S.due(x, "body(0)", 10);
        S.due(x, "body(1)", NONE);
    }

    private static void sheets() {
        S.of(TERMS, "SHEETS 0 .. 3 are rows of 8, 16, 32 bits, at most 24 numbers, or missing (as at first).");
        ElevenYoghurts x = new ElevenYoghurts();
        for (int s = 0; s < 4; s++) {
            S.due(x, "put(" + s + ", 0, 0)", NONE);
            for (int bits = 8; bits <= 32; bits *= 2) {
                S.due(x, "sheet(" + s + ", " + bits + ", 24)", 1);
                S.due(x, "put(" + s + ", 23, 1)", 1);
                S.due(x, "put(" + s + ", 24, 1)", BEYOND);
                S.due(x, "sheet(" + s + ", " + bits + ", 25)", BEYOND);
            }
        }
        S.due(x, "sheet(4, 8, 1)", BEYOND);
        S.due(x, "sheet(-1, 8, 1)", BEYOND);
    }
}
