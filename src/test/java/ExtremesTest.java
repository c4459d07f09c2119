import java.lang.reflect.Method;
import java.lang.reflect.Modifier;
import java.util.ArrayList;
import java.util.Arrays;
import java.util.Comparator;
import java.util.List;

/** Every call with every choice of arguments at the edges of ints, of 0 and of what an argument may be: as the Model answers. */
public final class ExtremesTest {
    private static final int[] MANY = {Integer.MIN_VALUE, -1, 0, 1, 2, 7, 8, 9, 10, 24, 25, 32, 41, 60, 61, 70, 99, 100, 256, 9999, Integer.MAX_VALUE};
    private static final int[] SOME = {Integer.MIN_VALUE, -1, 0, 1, 3, 4, 8, 10, 24, 25, Integer.MAX_VALUE};
    private static final int[] FEW = {Integer.MIN_VALUE, -1, 0, 2, 3, 24, Integer.MAX_VALUE};
    private static final int CALLS = 480;

    private static final String[] STATE = {
        "person(31)", "person(42)", "person(55)", "person(24)", "person(60)", "feel(0, 0, 50)", "feel(2, 1, 5)", "feel(2, 2, 1)",
        "thing(1, 1, 2, 3)", "thing(0, 2, 1, 0)", "thing(3, 0, 3, 1)", "thing(2, 0, 0, 9)", "mark(1, 3, 1)", "sheet(0, 8, 24)", "sheet(1, 8, 3)",
        "sheet(2, 32, 2)", "voice(1, 3, 5)", "comes(0, 0)", "image()",
    };

    private static final Due D = new Due("ExtremesTest");
    private ElevenYoghurts mine;
    private Model due;
    private int calls;

    public static void main(String[] args) {
        ExtremesTest test = new ExtremesTest();
        Method[] methods = ElevenYoghurts.class.getDeclaredMethods();
        Arrays.sort(methods, Comparator.comparing(Method::getName));
        for (Method method : methods) {
            if (!Modifier.isPublic(method.getModifiers())) continue;
            test.begin(new String[0]);
            test.eachChoice(method.getName(), method.getParameterCount(), new ArrayList<>(), new String[0]);
            test.begin(STATE);
            test.eachChoice(method.getName(), method.getParameterCount(), new ArrayList<>(), STATE);
        }
        D.finish();
    }

    private void begin(String[] state) {
        mine = new ElevenYoghurts();
        due = new Model();
        Calls.all(mine, state);
        Calls.all(due, state);
        calls = state.length;
    }

    private void eachChoice(String name, int arguments, List<Integer> chosen, String[] state) {
        if (chosen.size() == arguments) {
            ask(name + "(" + chosen.toString().replaceAll("[\\[\\]]", "") + ")", state);
            return;
        }
        for (int v : arguments < 3 ? MANY : arguments < 5 ? SOME : FEW) {
            chosen.add(v);
            eachChoice(name, arguments, chosen, state);
            chosen.remove(chosen.size() - 1);
        }
    }

    private void ask(String call, String[] state) {
        if (calls >= CALLS) begin(state);
        calls++;
        D.due(call, Calls.answer(mine, call), Calls.answer(due, call));
    }
}
