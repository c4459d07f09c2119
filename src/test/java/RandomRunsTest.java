import java.util.ArrayList;
import java.util.List;

/** Runs of at most 512 calls, the same on the class and on the Model of these tests: every answer must be the same. */
public final class RandomRunsTest {
    private static final int RUNS = 1000;
    private static final int CALLS = 512;

    /** name, weight, then the least and the greatest of what is mostly asked with. */
    private static final String[] CALL_KINDS = {
        "person 3 0 69", "personIs 4 0 7 0 5", "become 4 0 7 0 69", "as 3 0 7 0 6", "feel 8 0 7 0 2 -1 9", "feel 2 0 7 0 0 0 99",
        "thing 4 0 7 0 2 0 3 0 9", "thingIs 6 0 9 0 7", "mark 9 0 9 0 3 0 3", "anew 10 0 9",
        "feed 1 0 0 1 8", "text 1 0 1", "untell 1 0 1", "law 3 0 1 -3 9 -3 9 -3 9",
        "urge 4 0 7 0 9", "guard 3 0 9 0 1", "comes 5 0 7 0 1", "hours 1 1 9", "friday 1 0 9", "seed 1 -9 9",
        "wants 6 0 7 0 1 0 1", "trap 4 0 9 0 1", "safest 5 0 9", "lock 4 0 1", "round 6 0 7 0 1", "odds 4 0 9 0 1",
        "who 4 0 3", "lost 2 0 60 0 1", "oldest 2",
        "voice 5 0 7 0 3 -99 99", "body 3 0 9", "sheet 3 0 3 8 8 0 9", "sheet 2 0 3 0 33 -1 25", "put 6 0 3 0 9 -2 9", "move 3 0 3 0 5 0 3 0 5 0 5",
        "labels 2 0 3", "judge 3 0 3", "image 1", "restore 1", "tell 2 0 20", "check 1", "count 4 0 10", "told 3 1 6",
    };

    private static final long[] STRANGE = {
        Integer.MIN_VALUE, Integer.MAX_VALUE, Integer.MIN_VALUE + 1, -1, -2, 0, 1, 7, 8, 9, 10, 24, 25, 31, 32, 60, 61, 64, 70, 100, 255, 256, 65535, 32768,
        -1000000001, 1 << 30, Long.MIN_VALUE, Long.MAX_VALUE,
    };

    private long state = 20261118;
    private ElevenYoghurts mine;
    private Model due;
    private final List<String> calls = new ArrayList<>();
    private boolean wrong;
    private int errors;
    private int answers;

    private int below(int n) {
        state = state * 6364136223846793005L + 1442695040888963407L;
        return (int) ((state >>> 33) % n);
    }

    private long between(long least, long most) {
        return least + below((int) (most - least + 1));
    }

    public static void main(String[] args) {
        RandomRunsTest test = new RandomRunsTest();
        for (int run = 0; run < RUNS && !test.wrong; run++) {
            test.run(run);
        }
        System.out.println("RandomRunsTest: " + test.answers + " answers alike, of which " + test.errors + " are ERRORS");
        if (test.wrong) System.exit(1);
    }

    private void run(int run) {
        mine = new ElevenYoghurts();
        due = new Model();
        calls.clear();
        int oddness = below(4) == 0 ? 8 : 40;
        int people = below(9);
        for (int i = 0; i < people; i++) call("person", below(70));
        for (int i = below(11); i > 0 && people > 0; i--) call("thing", below(people), below(3), below(4), below(10));
        if (below(2) == 0) readText();
        for (int i = below(5); i > 0; i--) call("feel", below(8), 1, below(10));
        if (below(3) == 0) laySheet();
        if (below(20) == 0) for (int i = 0; i < 250; i++) call("hours", 40);
        while (calls.size() < CALLS && !wrong) {
            int what = below(40);
            if (what == 0 && calls.size() < CALLS - 10) readText();
            else if (what == 1 && calls.size() < CALLS - 30) laySheet();
            else if (what == 2 && calls.size() < CALLS - 30) tellHunger();
            else oneCall(oddness);
        }
    }

    private void oneCall(int oddness) {
        int total = 0;
        for (String kind : CALL_KINDS) total += Integer.parseInt(kind.split(" ")[1]);
        int pick = below(total);
        for (String kind : CALL_KINDS) {
            String[] words = kind.split(" ");
            pick -= Integer.parseInt(words[1]);
            if (pick >= 0) continue;
            Object[] args = new Object[(words.length - 2) / 2];
            for (int i = 0; i < args.length; i++) {
                long v = between(Long.parseLong(words[2 + 2 * i]), Long.parseLong(words[3 + 2 * i]));
                if (below(oddness) == 0) v = STRANGE[below(STRANGE.length)];
                args[i] = v;
            }
            if (words[0].equals("sheet") && below(3) == 0) args[1] = (long) (8 << below(3));
            call(words[0], args);
            return;
        }
    }

    /** A TEXT that mostly is one, in words of up to 8 bytes. */
    private void readText() {
        int use = below(2);
        StringBuilder text = new StringBuilder();
        write(text, 0, use == 0 ? "loa" : "lso", 0);
        for (int i = below(6) == 0 ? 1 + below(2) : 0; i > 0 && text.length() > 0; i--) {
            text.setCharAt(below(text.length()), "loas019+-*/%()!|&<=>x \0\u00e9".charAt(below(24)));
        }
        if (below(12) == 0) text.setLength(below(text.length() + 1));
        if (text.length() > 60) text.setLength(60);
        for (int at = 0; at < text.length();) {
            int n = Math.min(1 + below(8), text.length() - at);
            if (calls.size() > CALLS - 40) n = Math.min(8, text.length() - at);
            long word = (long) below(1 << 30) << 40;
            if (n == 8) word = 0;
            else word = word << 24 >> (8 * n) << (8 * n);
            for (int i = 0; i < n; i++) word |= (long) text.charAt(at + i) << (8 * i);
            call("feed", word, n);
            at += n;
        }
        call("text", below(30) == 0 ? 2 : use);
    }

    private void write(StringBuilder out, int level, String names, int open) {
        String[] joins = {"|", "&", "<=>", "+-", "*/%"};
        if (level == 5) {
            int pick = below(10);
            if (pick < 3) out.append(below(3) == 0 ? below(12000) : below(40));
            else if (pick < 8 || open > 5 || out.length() > 40) out.append(names.charAt(below(3)));
            else if (pick == 8) {
                out.append('!');
                write(out, 5, names, open + 1);
            } else {
                out.append('(');
                write(out, 0, names, open + 1);
                out.append(')');
            }
            return;
        }
        write(out, level + 1, names, open);
        for (int i = 0; i < 2 && out.length() < 45 && below(level == 3 ? 2 : level == 4 ? 3 : 8) == 0; i++) {
            out.append(joins[level].charAt(below(joins[level].length())));
            write(out, level + 1, names, open);
            if (level == 2 && below(20) != 0) break;
        }
    }

    /** A SHEET that tells what is taken, or nearly. */
    private void laySheet() {
        int sheet = below(4);
        int n = below(7);
        call("sheet", sheet, 8 << below(3), n);
        if (due.count(0) == 0) return;
        boolean byHours = below(2) == 0 && due.count(3) < 9990;
        int person = below(due.count(0));
        call("image");
        int[] taken = new int[n];
        for (int i = 0; i < n; i++) {
            if (byHours) {
                int[] there = there();
                due.hours(1);
                taken[i] = gone(there);
            } else {
                taken[i] = due.comes(person, 0);
            }
        }
        due.restore();
        for (int i = 0; i < n; i++) {
            if (taken[i] != 0 || below(4) == 0) call("put", sheet, i, below(15) == 0 ? below(10) : taken[i]);
        }
        call(byHours ? "judge" : "who", sheet);
    }

    private int[] there() {
        int[] there = new int[due.count(1)];
        for (int t = 0; t < there.length; t++) there[t] = due.thingIs(t, 4);
        return there;
    }

    private int gone(int[] there) {
        for (int t = 0; t < there.length; t++) if (there[t] != due.thingIs(t, 4)) return t;
        return -1;
    }

    private void tellHunger() {
        int many = below(due.count(0) + 2);
        call("check");
        for (int i = 0; i < many; i++) call("tell", i < due.count(0) && below(9) != 0 ? due.personIs(i, 2) : below(100));
        call("check");
    }

    private void call(String name, Object... given) {
        if (wrong) return;
        Object[] longs = new Object[given.length];
        StringBuilder text = new StringBuilder(name).append('(');
        for (int i = 0; i < given.length; i++) {
            longs[i] = ((Number) given[i]).longValue();
            text.append(i == 0 ? "" : ", ").append(longs[i]);
        }
        calls.add(text.append(')').toString());
        long want = Calls.answer(due, name, longs);
        long got;
        try {
            got = Calls.answer(mine, name, longs);
        } catch (IllegalStateException e) {
            report(e.getMessage(), want);
            return;
        }
        answers++;
        if (want >= Model.PARTED && want <= Model.BEYOND) errors++;
        if (got != want) report("answered " + got, want);
    }

    private void report(String what, long want) {
        wrong = true;
        for (String call : calls) System.out.println("  " + call);
        System.out.println("the last " + what + ", due is " + want);
    }
}
