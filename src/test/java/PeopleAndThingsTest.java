/** Promises 1 to 10. */
public final class PeopleAndThingsTest {
    private static final int BEYOND = -1000000001;
    private static final int STATE = -1000000003;
    private static final int FULL = -1000000004;
    private static final int KIND = -1000000005;
    private static final Due D = new Due("PeopleAndThingsTest");

    public static void main(String[] args) {
        newObject();
        person();
        personIs();
        become();
        as();
        feel();
        thing();
        thingIs();
        mark();
        anew();
        D.finish();
    }

    private static void newObject() {
        ElevenYoghurts x = new ElevenYoghurts();
        for (int what = 0; what < 10; what++) D.due("new: count(" + what + ")", x.count(what), 0);
        D.due("new: count(10)", x.count(10), 1);
        for (int k = 1; k <= 6; k++) D.due("new: told(" + k + ")", x.told(k), 0);
        D.due("new: untell(0)", x.untell(0), 0);
        D.due("new: untell(1)", x.untell(1), 0);
        D.due("new: personIs(0, 0)", x.personIs(0, 0), BEYOND);
        D.due("new: thingIs(0, 0)", x.thingIs(0, 0), BEYOND);
        for (int s = 0; s < 4; s++) D.due("new: who(" + s + ")", x.who(s), -1000000002);
        D.due("new: restore()", x.restore(), -1000000002);
        D.due("new: body(0)", x.body(0), -1000000002);
        D.due("new: oldest()", x.oldest(), -1000000002);
        D.due("new: lock(0)", x.lock(0), 0);
        D.due("new: lock(1)", x.lock(1), 0);
    }

    private static void person() {
        ElevenYoghurts x = new ElevenYoghurts();
        D.due("person(70)", x.person(70), BEYOND);
        D.due("person(-1)", x.person(-1), BEYOND);
        D.due("person(MAX)", x.person(Integer.MAX_VALUE), BEYOND);
        D.due("person(MIN)", x.person(Integer.MIN_VALUE), BEYOND);
        int[] kms = {0, 69, 10, 25, 31, 47, 58, 9};
        for (int i = 0; i < 8; i++) D.due("person(" + kms[i] + ")", x.person(kms[i]), i);
        for (int i = 0; i < 8; i++) {
            D.due("personIs(" + i + ", 0)", x.personIs(i, 0), kms[i] / 10);
            D.due("personIs(" + i + ", 1)", x.personIs(i, 1), kms[i] % 10);
        }
        D.due("the ninth", x.person(0), FULL);
        D.due("the ninth, of no KIND", x.person(70), BEYOND);
        D.due("count(0)", x.count(0), 8);
        D.due("told(4)", x.told(4), 1);
        D.due("told(1)", x.told(1), 5);
    }

    private static void personIs() {
        ElevenYoghurts x = new ElevenYoghurts();
        x.person(43);
        x.person(0);
        D.due("HUNGER at first", x.personIs(0, 2), 10);
        D.due("ROBBED at first", x.personIs(0, 3), 0);
        D.due("SUSPECT at first", x.personIs(0, 4), -1);
        D.due("his THINGS at first", x.personIs(0, 5), 0);
        x.thing(0, 0, 0, 0);
        x.thing(1, 0, 0, 9);
        x.thing(0, 0, 0, 9);
        D.due("his THINGS", x.personIs(0, 5), 2);
        x.mark(2, 3, 1);
        D.due("his THINGS, one LOCKED", x.personIs(0, 5), 2);
        x.friday(9);
        D.due("his THINGS in THE FRIDGE", x.personIs(0, 5), 1);
        D.due("the other's", x.personIs(1, 5), 0);
        D.due("personIs(2, 0)", x.personIs(2, 0), BEYOND);
        D.due("personIs(-1, 0)", x.personIs(-1, 0), BEYOND);
        D.due("personIs(0, 6)", x.personIs(0, 6), BEYOND);
        D.due("personIs(0, -1)", x.personIs(0, -1), BEYOND);
        D.due("personIs(MIN, 0)", x.personIs(Integer.MIN_VALUE, 0), BEYOND);
        D.due("personIs(MAX, 0)", x.personIs(Integer.MAX_VALUE, 0), BEYOND);
    }

    private static void become() {
        ElevenYoghurts x = new ElevenYoghurts();
        x.person(43);
        x.person(5);
        x.feel(0, 0, 77);
        x.feel(0, 1, 4);
        x.feel(0, 2, 1);
        D.due("become(0, 69)", x.become(0, 69), 4);
        D.due("KIND", x.personIs(0, 0), 6);
        D.due("m", x.personIs(0, 1), 9);
        D.due("HUNGER stays", x.personIs(0, 2), 77);
        D.due("ROBBED stays", x.personIs(0, 3), 4);
        D.due("SUSPECT stays", x.personIs(0, 4), 1);
        D.due("become(0, 0)", x.become(0, 0), 6);
        D.due("become(0, 70)", x.become(0, 70), BEYOND);
        D.due("become(0, -1)", x.become(0, -1), BEYOND);
        D.due("become(2, 10)", x.become(2, 10), BEYOND);
        D.due("become(-1, 10)", x.become(-1, 10), BEYOND);
        D.due("become(1, 20)", x.become(1, 20), 0);
    }

    private static void as() {
        ElevenYoghurts x = new ElevenYoghurts();
        int[] above = {-1, 0, 0, 0, 1, 2, 0};
        for (int kind = 0; kind < 7; kind++) x.person(10 * kind + kind + 2);
        for (int kind = 0; kind < 7; kind++) {
            for (int other = 0; other < 7; other++) {
                boolean is = other == kind || other == 0 || other == above[kind];
                D.due("as(" + kind + ", " + other + ")", x.as(kind, other), is ? kind + 2 : KIND);
            }
        }
        D.due("as(0, 7)", x.as(0, 7), BEYOND);
        D.due("as(0, -1)", x.as(0, -1), BEYOND);
        D.due("as(7, 0)", x.as(7, 0), BEYOND);
        D.due("as(-1, 0)", x.as(-1, 0), BEYOND);
        D.due("told(5)", x.told(5), 49 - 7 - 6 - 2);
    }

    private static void feel() {
        ElevenYoghurts x = new ElevenYoghurts();
        x.person(0);
        x.person(0);
        D.due("feel(0, 0, 99)", x.feel(0, 0, 99), 10);
        D.due("feel(0, 0, 0)", x.feel(0, 0, 0), 99);
        D.due("feel(0, 0, 100)", x.feel(0, 0, 100), BEYOND);
        D.due("feel(0, 0, -1)", x.feel(0, 0, -1), BEYOND);
        D.due("HUNGER", x.personIs(0, 2), 0);
        D.due("feel(0, 1, 9)", x.feel(0, 1, 9), 0);
        D.due("feel(0, 1, 0)", x.feel(0, 1, 0), 9);
        D.due("feel(0, 1, 3)", x.feel(0, 1, 3), 0);
        D.due("feel(0, 1, 10)", x.feel(0, 1, 10), BEYOND);
        D.due("feel(0, 1, -1)", x.feel(0, 1, -1), BEYOND);
        D.due("ROBBED", x.personIs(0, 3), 3);
        D.due("feel(0, 2, 1)", x.feel(0, 2, 1), -1);
        D.due("feel(0, 2, 0)", x.feel(0, 2, 0), BEYOND);
        D.due("feel(0, 2, 2)", x.feel(0, 2, 2), BEYOND);
        D.due("feel(0, 2, -2)", x.feel(0, 2, -2), BEYOND);
        D.due("SUSPECT", x.personIs(0, 4), 1);
        D.due("feel(0, 2, -1)", x.feel(0, 2, -1), 1);
        D.due("SUSPECT: nobody", x.personIs(0, 4), -1);
        D.due("feel(1, 2, 0)", x.feel(1, 2, 0), -1);
        D.due("feel(0, 3, 0)", x.feel(0, 3, 0), BEYOND);
        D.due("feel(0, -1, 0)", x.feel(0, -1, 0), BEYOND);
        D.due("feel(2, 0, 0)", x.feel(2, 0, 0), BEYOND);
        D.due("feel(-1, 0, 0)", x.feel(-1, 0, 0), BEYOND);
        D.due("the other's HUNGER", x.personIs(1, 2), 10);
    }

    private static void thing() {
        ElevenYoghurts x = new ElevenYoghurts();
        D.due("a THING of nobody", x.thing(0, 0, 0, 0), BEYOND);
        x.person(0);
        x.person(0);
        D.due("thing(2, ..)", x.thing(2, 0, 0, 0), BEYOND);
        D.due("thing(-1, ..)", x.thing(-1, 0, 0, 0), BEYOND);
        D.due("label 3", x.thing(0, 3, 0, 0), BEYOND);
        D.due("label -1", x.thing(0, -1, 0, 0), BEYOND);
        D.due("look 4", x.thing(0, 0, 4, 0), BEYOND);
        D.due("look -1", x.thing(0, 0, -1, 0), BEYOND);
        D.due("age 10", x.thing(0, 0, 0, 10), BEYOND);
        D.due("age -1", x.thing(0, 0, 0, -1), BEYOND);
        D.due("count(1)", x.count(1), 0);
        for (int t = 0; t < 10; t++) D.due("thing " + t, x.thing(t % 2, t % 3, t % 4, t), t);
        D.due("the eleventh", x.thing(0, 0, 0, 0), FULL);
        D.due("the eleventh, BEYOND", x.thing(0, 0, 0, 10), BEYOND);
        x.friday(0);
        D.due("gone ones count, too", x.thing(0, 0, 0, 0), FULL);
        D.due("count(1)", x.count(1), 10);
        D.due("count(2)", x.count(2), 0);
    }

    private static void thingIs() {
        ElevenYoghurts x = new ElevenYoghurts();
        x.person(0);
        x.person(30);
        x.person(60);
        x.thing(1, 2, 3, 4);
        int[] due = {1, 2, 3, 4, 1, -1, 0, 20 + 30 - 12};
        for (int what = 0; what < 8; what++) D.due("thingIs(0, " + what + ")", x.thingIs(0, what), due[what]);
        D.due("thingIs(0, 8)", x.thingIs(0, 8), BEYOND);
        D.due("thingIs(0, -1)", x.thingIs(0, -1), BEYOND);
        D.due("thingIs(1, 0)", x.thingIs(1, 0), BEYOND);
        D.due("thingIs(-1, 0)", x.thingIs(-1, 0), BEYOND);
        x.comes(1, 1);
        D.due("gone", x.thingIs(0, 4), 0);
        D.due("who took it", x.thingIs(0, 5), 1);
        D.due("its AGE is still told", x.thingIs(0, 3), 4);
        D.due("its APPEAL, too", x.thingIs(0, 7), 38);
        x.thing(0, 0, 0, 9);
        x.comes(2, 0);
        D.due("a CLEANER took it", x.thingIs(1, 5), 2);
        x.thing(0, 0, 0, 9);
        x.mark(2, 3, 1);
        D.due("LOCKED", x.thingIs(2, 6), 1);
        x.friday(9);
        D.due("thrown out on a Friday", x.thingIs(2, 4), 0);
        D.due("by nobody", x.thingIs(2, 5), -1);
        D.due("LOCKED still", x.thingIs(2, 6), 1);
        x.thing(0, 0, 0, 7);
        D.due("APPEAL is 0 at least", x.thingIs(3, 7), 0);
    }

    private static void mark() {
        ElevenYoghurts x = new ElevenYoghurts();
        x.person(0);
        x.thing(0, 1, 2, 5);
        int[] was = {1, 2, 5, 0};
        int[] most = {2, 3, 9, 1};
        int[] place = {1, 2, 3, 6};
        for (int what = 0; what < 4; what++) {
            D.due("what it was: " + what, x.mark(0, what, most[what]), was[what]);
            D.due("what it is: " + what, x.thingIs(0, place[what]), most[what]);
            D.due("too much: " + what, x.mark(0, what, most[what] + 1), BEYOND);
            D.due("too little: " + what, x.mark(0, what, -1), BEYOND);
            D.due("0: " + what, x.mark(0, what, 0), most[what]);
            D.due("0 it is: " + what, x.thingIs(0, place[what]), 0);
        }
        D.due("mark(0, 4, 0)", x.mark(0, 4, 0), BEYOND);
        D.due("mark(0, -1, 0)", x.mark(0, -1, 0), BEYOND);
        D.due("mark(1, 0, 0)", x.mark(1, 0, 0), BEYOND);
        D.due("mark(-1, 0, 0)", x.mark(-1, 0, 0), BEYOND);
        x.friday(0);
        for (int what = 0; what < 4; what++) D.due("gone: " + what, x.mark(0, what, 1), STATE);
        D.due("gone, BEYOND ahead", x.mark(0, 0, 3), BEYOND);
        D.due("gone: nothing changed", x.thingIs(0, 1), 0);
    }

    private static void anew() {
        ElevenYoghurts x = new ElevenYoghurts();
        x.person(0);
        x.person(30);
        x.thing(0, 2, 3, 8);
        x.thing(0, 0, 0, 0);
        x.mark(1, 3, 1);
        D.due("anew(0), there", x.anew(0), STATE);
        D.due("anew(2)", x.anew(2), BEYOND);
        D.due("anew(-1)", x.anew(-1), BEYOND);
        x.mark(0, 3, 1);
        x.mark(0, 3, 0);
        D.due("comes(1, 0)", x.comes(1, 0), 0);
        D.due("anew(0)", x.anew(0), 2);
        int[] due = {0, 2, 3, 0, 1, -1, 0, 50};
        for (int what = 0; what < 8; what++) D.due("anew: thingIs(0, " + what + ")", x.thingIs(0, what), due[what]);
        x.friday(0);
        D.due("anew(1)", x.anew(1), 1);
        D.due("LOCKED as it was", x.thingIs(1, 6), 1);
        D.due("anew(1) again", x.anew(1), STATE);
    }
}
