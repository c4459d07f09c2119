/** Promises 15 to 20. */
public final class ComesTest {
    private static final int BEYOND = -1000000001;
    private static final int STATE = -1000000003;
    private static final Due D = new Due("ComesTest");

    public static void main(String[] args) {
        urgeOfEachKind();
        urgeWrong();
        guard();
        comes();
        robbedNineAtMost();
        hours();
        hoursWithoutPeople();
        lastHour();
        hungerAndAge();
        friday();
        seed();
        D.finish();
    }

    /** 0: whom we ask; 1: another, his SUSPECT or not. THING 0 is his own, 1 the other's; both of APPEAL 41. */
    private static ElevenYoghurts two(int km, int hunger, int robbed, boolean suspects) {
        ElevenYoghurts x = new ElevenYoghurts();
        x.person(km);
        x.person(0);
        x.person(0);
        x.thing(0, 0, 3, 3);
        x.thing(1, 0, 3, 3);
        x.feel(0, 0, hunger);
        x.feel(0, 1, robbed);
        x.feel(0, 2, suspects ? 1 : 2);
        return x;
    }

    private static void urge(String what, ElevenYoghurts x, int own, int others) {
        D.due(what + ": own", x.urge(0, 0), own);
        D.due(what + ": another's", x.urge(0, 1), others);
    }

    private static void urgeOfEachKind() {
        urge("PERSON", two(5, 31, 3, true), 81, 0);
        urge("TAKER", two(15, 31, 3, true), 81, 41 + 15 - 20);
        urge("AVENGER", two(25, 31, 3, false), 45 + 20 + (81 - 65), 45 + 20);
        urge("AVENGER, not ROBBED", two(25, 31, 0, true), 81, 0);
        urge("AVENGER, ROBBED once", two(25, 31, 1, false), 81, 35);
        urge("MISTAKEN", two(35, 31, 3, true), 41, 41);
        urge("HABITUAL", two(45, 31, 3, true), 86, 41);
        urge("HABITUAL, m 0", two(40, 31, 3, true), 81, 36);
        urge("JUST", two(55, 31, 3, true), 81, 65);
        urge("JUST, suspecting another", two(55, 31, 3, false), 81, 0);
        urge("JUST, not ROBBED", two(55, 31, 0, true), 81, 0);
        urge("CLEANER of 3", two(63, 31, 3, true), 30, 30);
        urge("CLEANER of 4", two(64, 31, 3, true), 0, 0);
        urge("CLEANER of 0", two(60, 31, 3, true), 30, 30);
        ElevenYoghurts x = two(10, 2, 0, false);
        x.mark(1, 1, 0);
        x.mark(1, 2, 2);
        urge("TAKER of little APPEAL", x, 52, 0);
        x.become(0, 47);
        urge("HABITUAL of little APPEAL", x, 59, 7);
        x.become(0, 20);
        x.feel(0, 1, 1);
        urge("AVENGER of little APPEAL", x, 52, 15 + 7);
        TextsTest.write(x, "33+l");
        x.text(0);
        x.mark(1, 0, 2);
        x.become(0, 30);
        urge("MISTAKEN by a TEXT", x, 33, 35);
        x.mark(1, 3, 1);
        D.due("LOCKED, too", x.urge(0, 1), 35);
        x.friday(0);
        D.due("gone, too", x.urge(0, 1), 35);
        D.due("another one's own", x.urge(1, 1), 60);
    }

    private static void urgeWrong() {
        ElevenYoghurts x = two(0, 0, 0, false);
        D.due("urge(3, 0)", x.urge(3, 0), BEYOND);
        D.due("urge(-1, 0)", x.urge(-1, 0), BEYOND);
        D.due("urge(0, 2)", x.urge(0, 2), BEYOND);
        D.due("urge(0, -1)", x.urge(0, -1), BEYOND);
        D.due("urge(MAX, MIN)", x.urge(Integer.MAX_VALUE, Integer.MIN_VALUE), BEYOND);
    }

    private static void guard() {
        ElevenYoghurts x = new ElevenYoghurts();
        x.person(0);
        for (int label = 0; label < 3; label++) x.thing(0, label, 3, 9);
        for (int label = 0; label < 3; label++) {
            D.due("not SEEN, LABEL " + label, x.guard(label, 0), 10 * label);
            D.due("SEEN, LABEL " + label, x.guard(label, 1), 10 * label + 20);
        }
        D.due("guard(0, 2)", x.guard(0, 2), BEYOND);
        D.due("guard(0, -1)", x.guard(0, -1), BEYOND);
        D.due("guard(3, 0)", x.guard(3, 0), BEYOND);
        D.due("guard(-1, 0)", x.guard(-1, 0), BEYOND);
        TextsTest.write(x, "l*20+s*7+o");
        x.text(1);
        D.due("by a TEXT", x.guard(1, 0), 23);
        D.due("by a TEXT, SEEN", x.guard(2, 1), 50);
    }

    private static void comes() {
        ElevenYoghurts x = new ElevenYoghurts();
        x.person(10);
        x.person(0);
        x.person(60);
        x.thing(1, 0, 2, 0);
        x.thing(0, 0, 0, 0);
        x.thing(1, 2, 2, 0);
        D.due("comes(3, 0)", x.comes(3, 0), BEYOND);
        D.due("comes(-1, 0)", x.comes(-1, 0), BEYOND);
        D.due("comes(0, 2)", x.comes(0, 2), BEYOND);
        D.due("comes(0, -1)", x.comes(0, -1), BEYOND);
        D.due("his own", x.comes(0, 1), 1);
        D.due("EATEN", x.count(5), 1);
        D.due("STOLEN", x.count(4), 0);
        D.due("HUNGER", x.personIs(0, 2), 0);
        D.due("not ROBBED by himself", x.personIs(0, 3), 0);
        D.due("gone", x.thingIs(1, 4), 0);
        D.due("SEEN: APPEAL 40 less 20, less 20", x.comes(0, 1), -1);
        D.due("HUNGER of nobody else", x.personIs(1, 2), 10);
        D.due("not SEEN", x.comes(0, 0), 0);
        D.due("STOLEN", x.count(4), 1);
        D.due("EATEN", x.count(5), 1);
        D.due("ROBBED", x.personIs(1, 3), 1);
        D.due("who took it", x.thingIs(0, 5), 0);
        D.due("a name with 20 guards", x.comes(0, 0), -1);
        x.feel(0, 0, 2);
        x.mark(2, 3, 1);
        D.due("LOCKED", x.comes(0, 0), -1);
        D.due("LOCKED, his own", x.comes(1, 0), -1);
        x.mark(2, 3, 0);
        D.due("by HUNGER", x.comes(0, 0), 2);
        D.due("ROBBED", x.personIs(1, 3), 2);
        x.anew(0);
        x.anew(1);
        x.feel(2, 0, 66);
        D.due("a CLEANER", x.comes(2, 0), 0);
        D.due("THROWN", x.count(6), 1);
        D.due("his HUNGER", x.personIs(2, 2), 66);
        D.due("ROBBED by nobody", x.personIs(1, 3), 2);
        D.due("STOLEN", x.count(4), 2);
        D.due("EATEN", x.count(5), 1);
        D.due("HOUR", x.count(3), 0);
        D.due("z", x.count(10), 1);
        x.thing(2, 0, 0, 0);
        D.due("a CLEANER's own, without GUARD, too", x.comes(2, 1), 3);
        D.due("THROWN, not EATEN", x.count(6) * 10 + x.count(5), 21);
        D.due("another's, SEEN: 30 less 20", x.comes(2, 1), 1);
    }

    private static void robbedNineAtMost() {
        ElevenYoghurts x = new ElevenYoghurts();
        x.person(30);
        x.person(0);
        x.thing(1, 0, 3, 0);
        for (int i = 1; i <= 11; i++) {
            D.due("comes", x.comes(0, 0), 0);
            D.due("STOLEN", x.count(4), i);
            D.due("ROBBED", x.personIs(1, 3), Math.min(9, i));
            x.anew(0);
        }
    }

    private static void hours() {
        ElevenYoghurts x = new ElevenYoghurts();
        x.person(30);
        x.person(0);
        x.thing(1, 0, 1, 0);
        x.thing(1, 0, 0, 0);
        D.due("hours(0)", x.hours(0), BEYOND);
        D.due("hours(41)", x.hours(41), BEYOND);
        D.due("hours(-1)", x.hours(-1), BEYOND);
        // Draws 4310654, 9862832: 0 not SEEN. 2589156, 12872603: 0 SEEN. 16337887, 9829236: 1 not SEEN.
        D.due("hours(1)", x.hours(1), 1);
        D.due("z", x.count(10), -1770082073);
        D.due("HOUR", x.count(3), 1);
        D.due("he took", x.thingIs(0, 5), 0);
        D.due("HUNGER of who ate, an HOUR on", x.personIs(0, 2), 4);
        D.due("HUNGER of the other", x.personIs(1, 2), 14);
        D.due("hours(1), SEEN: 20 less 20", x.hours(1), 1);
        D.due("z", x.count(10), -999580867);
        D.due("hours(1), the owner", x.hours(1), 1);
        D.due("EATEN", x.count(5), 1);
        D.due("z", x.count(10), -1778682749);
        D.due("HUNGER", x.personIs(1, 2), 4);
        x.anew(1);
        x.seed(1);
        D.due("three at once, none more STOLEN but one", x.hours(3), 2);
        D.due("HOUR", x.count(3), 6);
        D.due("hours(40)", x.hours(40), 2);
        D.due("HOUR", x.count(3), 46);
    }

    private static void hoursWithoutPeople() {
        ElevenYoghurts x = new ElevenYoghurts();
        D.due("hours(40)", x.hours(40), 0);
        D.due("no draws", x.count(10), 1);
        D.due("HOUR", x.count(3), 40);
        x.person(0);
        x.hours(1);
        D.due("two draws, without THINGS, too", x.count(10), -1770082073);
    }

    private static void lastHour() {
        ElevenYoghurts x = new ElevenYoghurts();
        x.person(0);
        x.thing(0, 0, 0, 0);
        for (int i = 1; i < 250; i++) x.hours(40);
        D.due("HOUR", x.count(3), 9960);
        D.due("hours(40)", x.hours(40), STATE);
        D.due("nothing changed", x.count(3), 9960);
        D.due("hours(39)", x.hours(39), 0);
        D.due("HOUR", x.count(3), 9999);
        D.due("hours(1)", x.hours(1), STATE);
        D.due("hours(41)", x.hours(41), BEYOND);
        D.due("lost(60, 0)", x.lost(60, 0), 0);
        D.due("HOUR still", x.count(3), 9999);
    }

    private static void hungerAndAge() {
        ElevenYoghurts x = new ElevenYoghurts();
        x.person(0);
        x.person(0);
        x.thing(0, 0, 0, 0);
        x.thing(0, 0, 0, 8);
        x.thing(0, 0, 0, 5);
        x.mark(0, 3, 1);
        x.mark(1, 3, 1);
        x.mark(2, 3, 1);
        x.thing(1, 0, 0, 5);
        x.feel(0, 0, 94);
        x.comes(1, 0);
        x.hours(1);
        D.due("HUNGER 94 and 4", x.personIs(0, 2), 98);
        x.hours(1);
        D.due("99 at most", x.personIs(0, 2), 99);
        x.hours(5);
        D.due("HOUR 7: AGE", x.thingIs(0, 3), 0);
        x.hours(1);
        D.due("HOUR 8: AGE", x.thingIs(0, 3), 1);
        D.due("AGE 8 and 1", x.thingIs(1, 3), 9);
        D.due("AGE of a gone one", x.thingIs(3, 3), 5);
        D.due("HUNGER 0 and 8 times 4", x.personIs(1, 2), 32);
        x.hours(15);
        D.due("HOUR 23: AGE", x.thingIs(0, 3), 2);
        x.hours(1);
        D.due("HOUR 24: AGE", x.thingIs(0, 3), 3);
        D.due("9 at most", x.thingIs(1, 3), 9);
        D.due("AGE 5 and 3", x.thingIs(2, 3), 8);
    }

    private static void friday() {
        ElevenYoghurts x = new ElevenYoghurts();
        x.person(30);
        for (int age = 0; age < 10; age++) x.thing(0, 0, 0, age);
        D.due("friday(10)", x.friday(10), BEYOND);
        D.due("friday(-1)", x.friday(-1), BEYOND);
        x.mark(8, 3, 1);
        D.due("friday(7)", x.friday(7), 3);
        D.due("THROWN", x.count(6), 3);
        D.due("LOCKED or not", x.thingIs(8, 4), 0);
        D.due("of just that AGE", x.thingIs(7, 4), 0);
        D.due("a younger one", x.thingIs(6, 4), 1);
        D.due("friday(7) again", x.friday(7), 0);
        x.comes(0, 0);
        D.due("friday(0)", x.friday(0), 6);
        D.due("THROWN", x.count(6), 9);
        D.due("STOLEN", x.count(4), 0);
        D.due("count(2)", x.count(2), 0);
        D.due("who took what was eaten", x.thingIs(0, 5), 0);
    }

    private static void seed() {
        ElevenYoghurts x = new ElevenYoghurts();
        D.due("seed(MIN)", x.seed(Integer.MIN_VALUE), 1);
        D.due("seed(-1000000001)", x.seed(-1000000001), Integer.MIN_VALUE);
        D.due("no ERROR", x.seed(5), -1000000001);
        D.due("told(1)", x.told(1), 0);
        D.due("z", x.count(10), 5);
        x.seed(-1000000001);
        D.due("z, as an ERROR looks", x.count(10), -1000000001);
        D.due("told(1)", x.told(1), 0);
    }
}
