import java.util.ArrayList;
import java.util.Arrays;
import java.util.List;

/**
 * Calls that change nothing: each refused call, in each act's own order of ERRORS (told() counts that one ERROR more), and
 * what only asks or thinks. Whether nothing changed is told by many calls, on the object and on one made alike without the call.
 */
public final class NothingChangesTest {
    private static final int BEYOND = -1000000001;
    private static final int NONE = -1000000002;
    private static final int STATE = -1000000003;
    private static final int FULL = -1000000004;
    private static final int KIND = -1000000005;
    private static final int PARTED = -1000000006;
    private static final String TERMS = "Terms";
    private static final Sentences S = new Sentences("NothingChangesTest");

    /** Something of everything: 4 PEOPLE, 5 THINGS (0, 3, 4 are gone), TEXTS, THE TAPE, an IMAGE that is another; SHEET 2 is missing. */
    private static final String[] SOME = {
        "person(31)", "person(42)", "person(55)", "person(24)", "feel(0, 0, 50)", "feel(2, 1, 5)", "feel(2, 2, 1)",
        "thing(1, 1, 2, 3)", "thing(0, 2, 1, 0)", "thing(3, 0, 3, 1)", "thing(2, 0, 0, 9)", "image()", "mark(1, 3, 1)", "thing(1, 1, 1, 4)",
        Calls.fed("l+o+a"), "text(0)", Calls.fed("s*5"), "text(1)", "comes(0, 0)", "tell(0)", "tell(13)",
        "sheet(0, 8, 12)", "put(0, 1, 1)", "put(0, 9, 2)", "put(0, 11, 1)", "sheet(1, 16, 2)", "put(1, 0, 2)", "put(1, 1, 1)", "sheet(3, 8, 0)",
        "hours(2)", "voice(1, 2, 7)", Calls.fed("o+7"),
    };

    public static void main(String[] args) {
        beyond();
        otherErrors();
        full();
        lastHour();
        orders();
        parted();
        faultIsNoError();
        onlyThought();
        S.finish();
    }

    private static ElevenYoghurts made(String[] state) {
        ElevenYoghurts x = new ElevenYoghurts();
        Calls.all(x, state);
        return x;
    }

    private static String[] and(String[] state, String... more) {
        List<String> all = new ArrayList<>(List.of(state));
        all.addAll(List.of(more));
        return all.toArray(new String[0]);
    }

    private static void refused(String[] state, String call, int error) {
        ElevenYoghurts x = made(state);
        S.due(x, call, error);
        isAsWithout(x, state, call, error);
    }

    private static void isAsWithout(ElevenYoghurts x, String[] state, String call, int error) {
        ElevenYoghurts without = made(state);
        for (int k = 1; k <= 6; k++) {
            S.due(call + ", told(" + k + ")", x.told(k), without.told(k) + (error == -1000000000 - k ? 1 : 0));
        }
        for (String ask : asked()) S.due(call + ", then " + ask, Calls.answer(x, ask), Calls.answer(without, ask));
    }

    /** Nearly all that can be asked of an object; the later of these calls change it. */
    private static List<String> asked() {
        List<String> asked = new ArrayList<>();
        for (int i = 0; i < 7; i++) asked.add("body(" + i + ")");
        tellAll(asked);
        for (int s = 0; s < 4; s++) asked.add("judge(" + s + ")");
        for (int s = 0; s < 4; s++) {
            // What can't become LABELS of THINGS 0 to 4 as it stands is moved to the front.
            for (int part = 0; part < 3; part++) {
                asked.add("labels(" + s + ")");
                for (int t = 0; t < 5; t++) asked.add("thingIs(" + t + ", 1)");
                asked.add("move(" + s + ", 4, " + s + ", 0, 8)");
            }
            for (int n = 0; n <= 24; n++) asked.add("put(" + s + ", " + n + ", 0)");
        }
        asked.addAll(List.of("text(0)", "law(0, 3, 4, 5)", "check()", "hours(1)"));
        tellAll(asked);
        asked.add("restore()");
        tellAll(asked);
        asked.add("image()");
        return asked;
    }

    private static void tellAll(List<String> asked) {
        for (int what = 0; what <= 10; what++) asked.add("count(" + what + ")");
        for (int p = 0; p < 8; p++) for (int what = 0; what < 6; what++) asked.add("personIs(" + p + ", " + what + ")");
        for (int t = 0; t < 10; t++) for (int what = 0; what < 8; what++) asked.add("thingIs(" + t + ", " + what + ")");
        for (int use = 0; use < 2; use++) asked.add("law(" + use + ", 1, 2, 3)");
    }

    private static void beyond() {
        S.of(TERMS, "one that answers an ERROR changes nothing but what told() tells, or where told");
        String[] calls = {
            "person(70)", "person(-1)", "personIs(4, 0)", "personIs(-1, 0)", "personIs(0, 6)", "become(4, 0)", "become(0, 70)", "become(-1, 0)",
            "as(4, 0)", "as(0, 7)", "feel(4, 0, 1)", "feel(0, 3, 1)", "feel(0, 0, 100)", "feel(0, 1, 10)", "feel(0, 2, 0)", "feel(0, 2, 4)", "feel(0, 0, -1)",
            "thing(4, 0, 0, 0)", "thing(0, 3, 0, 0)", "thing(0, 0, 4, 0)", "thing(0, 0, 0, 10)", "thingIs(5, 0)", "thingIs(0, 8)",
            "mark(5, 0, 0)", "mark(0, 4, 0)", "mark(0, 0, 3)", "mark(0, 1, 4)", "mark(0, 2, 10)", "mark(0, 3, 2)", "anew(5)", "anew(-1)",
            "feed(0, 0)", "feed(0, 9)", "text(2)", "text(-1)", "untell(2)", "untell(-1)", "law(2, 0, 0, 0)", "urge(4, 0)", "urge(0, 5)",
            "guard(5, 0)", "guard(0, 2)", "comes(4, 0)", "comes(0, 2)", "hours(0)", "hours(41)", "friday(10)", "friday(-1)",
            "wants(4, 0, 0)", "wants(0, 2, 0)", "wants(0, 0, 2)", "trap(5, 0)", "trap(0, 2)", "safest(5)", "lock(2)", "round(4, 0)", "round(0, 2)",
            "odds(5, 0)", "odds(0, 2)", "who(4)", "lost(61, 0)", "lost(-1, 0)", "lost(0, 2)", "voice(4, 0, 0)", "voice(0, 4, 0)",
            "sheet(4, 8, 1)", "sheet(0, 9, 1)", "sheet(0, 8, 25)", "put(4, 0, 0)", "put(0, 12, 1)", "put(0, -1, 1)",
            "move(4, 0, 0, 0, 1)", "move(0, 0, 4, 0, 1)", "move(0, 11, 0, 0, 2)", "move(0, 0, 0, 11, 2)", "move(0, 0, 3, 0, 1)", "move(0, 1, 0, 0, -1)",
            "labels(4)", "judge(4)", "count(11)", "count(-1)", "told(0)", "told(7)",
        };
        for (String call : calls) refused(SOME, call, BEYOND);
    }

    private static void otherErrors() {
        S.of(TERMS, "LOW - 2 NONE");
        for (String call : new String[] {"who(2)", "put(2, 0, 0)", "move(2, 0, 0, 0, 0)", "move(0, 0, 2, 0, 0)", "labels(2)", "judge(2)", "body(6)", "body(-1)"}) {
            refused(SOME, call, NONE);
        }
        refused(and(SOME, "friday(0)"), "oldest()", NONE);
        refused(new String[] {"person(12)", "thing(0, 0, 0, 3)", "hours(3)"}, "restore()", NONE);

        S.of(TERMS, "LOW - 3 STATE");
        for (String call : new String[] {"mark(0, 0, 1)", "mark(3, 3, 1)", "anew(1)", "anew(2)", "safest(4)", "sheet(0, 8, -1)", "sheet(2, 32, -1)"}) {
            refused(SOME, call, STATE);
        }

        S.of(TERMS, "LOW - 5 KIND");
        for (String call : new String[] {"as(0, 1)", "as(3, 5)", "move(0, 0, 1, 0, 1)", "move(1, 0, 3, 0, 0)"}) refused(SOME, call, KIND);
    }

    private static void full() {
        S.of(TERMS, "LOW - 4 FULL");
        String[] people = {"person(0)", "person(0)", "person(0)", "person(0)"};
        refused(and(SOME, people), "person(9)", FULL);
        String[] things = {"thing(0, 0, 0, 0)", "thing(1, 0, 0, 0)", "thing(2, 0, 0, 0)", "thing(3, 0, 0, 0)", "thing(0, 0, 0, 0)"};
        refused(and(SOME, things), "thing(0, 2, 3, 9)", FULL);
        String[] bytes = {"feed(1, 8)", "feed(1, 8)", "feed(1, 8)", "feed(1, 8)", "feed(1, 8)", "feed(1, 8)", "feed(1, 8)"};
        refused(and(SOME, bytes), "feed(49, 2)", FULL);
        refused(and(and(SOME, bytes), "feed(1, 1)"), "feed(49, 1)", FULL);
        List<String> waiting = new ArrayList<>(List.of(SOME));
        for (int i = 2; i < 24; i++) waiting.add("tell(7)");
        refused(waiting.toArray(new String[0]), "tell(7)", FULL);
    }

    private static void lastHour() {
        S.of(18, "STATE: HOUR would be above 9999.");
        List<String> late = new ArrayList<>();
        for (int i = 0; i < 249; i++) late.add("hours(40)");
        late.addAll(List.of(SOME));
        late.add("hours(35)");
        String[] state = late.toArray(new String[0]);
        refused(state, "hours(3)", STATE);
        refused(state, "hours(40)", STATE);
        refused(and(state, "hours(2)"), "hours(1)", STATE);
        refused(and(state, "hours(2)"), "hours(41)", BEYOND);
    }

    private static void orders() {
        S.of(TERMS, "Each act tells its ERRORS in the order in which they are asked");
        refused(and(SOME, "person(0)", "person(0)", "person(0)", "person(0)"), "person(70)", BEYOND);
        refused(and(SOME, "thing(0, 0, 0, 0)", "thing(0, 0, 0, 0)", "thing(0, 0, 0, 0)", "thing(0, 0, 0, 0)", "thing(0, 0, 0, 0)"), "thing(8, 0, 0, 0)", BEYOND);
        refused(SOME, "as(0, 9)", BEYOND);
        refused(SOME, "mark(0, 0, 3)", BEYOND);
        refused(SOME, "mark(0, 9, 0)", BEYOND);
        refused(and(SOME, "feed(1, 8)", "feed(1, 8)", "feed(1, 8)", "feed(1, 8)", "feed(1, 8)", "feed(1, 8)", "feed(1, 8)"), "feed(1, 9)", BEYOND);
        refused(SOME, "safest(-1)", BEYOND);
        refused(and(SOME, "become(0, 0)"), "voice(0, 4, 0)", BEYOND);
        refused(SOME, "sheet(4, 8, -1)", BEYOND);
        refused(SOME, "sheet(0, 7, -1)", BEYOND);
        refused(SOME, "put(4, -1, 0)", BEYOND);
        refused(SOME, "put(2, -1, 0)", NONE);
        refused(SOME, "move(2, 0, 4, 0, 0)", BEYOND);
        refused(SOME, "move(4, 0, 2, 0, 0)", BEYOND);
        refused(SOME, "move(2, -1, 1, -1, -1)", NONE);
        refused(SOME, "move(1, 0, 2, 99, 99)", NONE);
        refused(SOME, "move(0, -1, 1, 99, 99)", KIND);
        refused(SOME, "move(0, 0, 1, 0, -1)", KIND);
    }

    private static void parted() {
        S.of(TERMS, "LOW - 6 PARTED");
        // THE TRACE is the latest voice()'s, too, where it is PARTED (Terms, 4): ahead of both goes a voice() that is PARTED alike.
        for (int kind = 0; kind < 7; kind++) {
            String[] state = and(SOME, "become(3, " + (10 * kind + 3) + ")", "voice(3, 3, 9)");
            refused(state, "voice(3, 3, 5)", PARTED);
            refused(state, "voice(3, 3, 0)", PARTED);
        }
        S.of(31, "THE TRACE's i-th. NONE: there is none such.");
        ElevenYoghurts x = made(and(SOME, "become(3, 3)", "voice(1, 2, 7)"));
        S.due(x, "count(9)", 6);
        S.due(x, "voice(3, 3, 5)", PARTED);
        S.due(x, "count(9)", 1);
        S.due(x, "body(0)", 13);
        S.due(x, "body(1)", NONE);
        S.due(x, "voice(4, 3, 5)", BEYOND);
        S.due(x, "body(0)", 13);
    }

    private static void faultIsNoError() {
        S.of(12, "-10 less the FAULT (no ERROR; the one ahead stays; THE TAPE is empty, too).");
        String[] withoutTape = Arrays.copyOf(SOME, SOME.length - 1);
        ElevenYoghurts x = made(and(withoutTape, Calls.fed("o+7)")));
        S.due(x, "text(0)", -13);
        isAsWithout(x, withoutTape, "text(0)", 0);
        x = made(and(withoutTape, Calls.fed("o+7+a")));
        S.due(x, "text(1)", -14);
        isAsWithout(x, withoutTape, "text(1)", 0);
    }

    private static void onlyThought() {
        S.of(TERMS, "(All this is only thought, as all is now; z, too, is as it was.)");
        String[] state = and(SOME, "anew(0)", "anew(3)", "mark(1, 3, 0)", "put(0, 0, 1)");
        String[] calls = {
            "personIs(0, 5)", "as(1, 1)", "thingIs(0, 7)", "law(0, 5, 6, 7)", "urge(0, 0)", "guard(0, 1)", "wants(0, 0, 0)", "wants(1, 1, 1)",
            "trap(0, 0)", "trap(3, 1)", "safest(0)", "safest(1)", "safest(2)", "safest(3)", "lock(0)", "lock(1)", "round(0, 0)", "round(2, 1)", "odds(0, 0)",
            "odds(1, 1)", "who(0)", "who(1)", "who(3)", "lost(0, 0)", "lost(60, 0)", "lost(60, 1)", "oldest()", "judge(0)", "judge(1)", "judge(3)",
            "body(0)", "count(10)", "told(1)",
        };
        for (String call : calls) {
            ElevenYoghurts x = made(state);
            long answer = Calls.answer(x, call);
            S.due(call + " is no ERROR (told() of all)", toldOfAll(x), toldOfAll(made(state)));
            S.due(call + " once more", Calls.answer(x, call), answer);
            isAsWithout(x, state, call, 0);
        }
    }

    private static int toldOfAll(ElevenYoghurts x) {
        int all = 0;
        for (int k = 1; k <= 6; k++) all += x.told(k);
        return all;
    }
}
