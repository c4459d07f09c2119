import java.util.ArrayList;
import java.util.Arrays;
import java.util.HashSet;
import java.util.List;
import java.util.Set;

/**
 * The document once more, for the tests alone, in other ways than the program's: BODIES are methods of real
 * subclasses, LOCKS are sought among all sets, TEXTS are judged by following every derivation at once and worked
 * out by splitting them, what is only thought is done to a copy that is thrown away.
 */
public final class Model {
    static final int BEYOND = -1000000001;
    static final int NONE = -1000000002;
    static final int STATE = -1000000003;
    static final int FULL = -1000000004;
    static final int KIND = -1000000005;
    static final int PARTED = -1000000006;

    private static final String[] KIND_NAMES = {"Person", "Taker", "Avenger", "Mistaken", "Habitual", "Just", "Cleaner"};

    static final class Human {
        int number;
        String kind;
        int m;
        int hunger = 10;
        int robbed = 0;
        int suspect = -1;

        Human copy() {
            Human h = new Human();
            h.number = number;
            h.kind = kind;
            h.m = m;
            h.hunger = hunger;
            h.robbed = robbed;
            h.suspect = suspect;
            return h;
        }
    }

    static final class Item {
        int[] marks = new int[4];
        int owner;
        boolean there = true;
        int taker = -1;

        Item copy() {
            Item i = new Item();
            i.marks = marks.clone();
            i.owner = owner;
            i.there = there;
            i.taker = taker;
            return i;
        }
    }

    /** What an IMAGE keeps. */
    static final class World {
        List<Human> humans = new ArrayList<>();
        List<Item> items = new ArrayList<>();
        String[] texts = new String[2];
        String tape = "";
        List<Integer> waiting = new ArrayList<>();
        int hour = 0;
        int stolen = 0;
        int eaten = 0;
        int thrown = 0;
        int z = 1;

        World copy() {
            World w = new World();
            for (Human h : humans) w.humans.add(h.copy());
            for (Item i : items) w.items.add(i.copy());
            w.texts = texts.clone();
            w.tape = tape;
            w.waiting = new ArrayList<>(waiting);
            w.hour = hour;
            w.stolen = stolen;
            w.eaten = eaten;
            w.thrown = thrown;
            w.z = z;
            return w;
        }

        int use(int use, int a, int b, int c) {
            int v;
            if (texts[use] != null) v = Texts.value(texts[use], use == 0 ? "loa" : "lso", new int[] {a, b, c});
            else if (use == 0) v = 20 + 10 * b - 3 * c;
            else v = 10 * a + 20 * b;
            return v < 0 ? 0 : v > 99 ? 99 : v;
        }

        int appeal(Item i) {
            return use(0, i.marks[0], i.marks[1], i.marks[2]);
        }

        int guard(Item i, int seen) {
            return use(1, i.marks[0], seen, i.marks[1]);
        }

        int urge(Human h, Item i) {
            return urgeAs(h.kind, h, i);
        }

        private int urgeAs(String kind, Human h, Item i) {
            boolean own = i.owner == h.number;
            if (kind.equals("Person")) return own ? 50 + h.hunger : 0;
            if (kind.equals("Taker")) {
                if (own) return urgeAs("Person", h, i);
                int u = appeal(i) + h.hunger / 2 - 20;
                return u < 0 ? 0 : u;
            }
            if (kind.equals("Avenger")) {
                if (own || h.robbed == 0) return urgeAs("Person", h, i);
                return h.robbed * 15 + appeal(i) / 2;
            }
            if (kind.equals("Mistaken")) return appeal(i);
            if (kind.equals("Habitual")) return urgeAs("Taker", h, i) + h.m;
            if (kind.equals("Just")) {
                if (own) return urgeAs("Avenger", h, i);
                if (h.suspect >= 0 && h.suspect == i.owner) return urgeAs("Avenger", h, i);
                return 0;
            }
            return i.marks[2] < h.m ? 0 : 30;
        }

        int pull(Human h, Item i, int seen) {
            return urge(h, i) - (i.owner == h.number ? 0 : guard(i, seen));
        }

        /** The wanted THING, walking from the last to the first. */
        int want(Human h, int seen) {
            int best = -1;
            for (int t = items.size() - 1; t >= 0; t--) {
                Item i = items.get(t);
                if (!i.there || i.marks[3] == 1 || pull(h, i, seen) <= 0) continue;
                if (best < 0 || pull(h, i, seen) >= pull(h, items.get(best), seen)) best = t;
            }
            return best;
        }

        int come(Human h, int seen) {
            int t = want(h, seen);
            if (t < 0) return -1;
            Item i = items.get(t);
            i.there = false;
            i.taker = h.number;
            if (h.kind.equals("Cleaner")) {
                if (thrown < 9999) thrown++;
                return t;
            }
            h.hunger = 0;
            if (i.owner == h.number) {
                if (eaten < 9999) eaten++;
            } else {
                if (stolen < 9999) stolen++;
                Human o = humans.get(i.owner);
                if (o.robbed < 9) o.robbed++;
            }
            return t;
        }

        int draw() {
            z = (int) ((z & 0xffffffffL) * 1103515245L + 12345L);
            return (int) ((z & 0xffffffffL) / 256L);
        }

        int hourGoes() {
            int t = -1;
            if (!humans.isEmpty()) {
                Human h = humans.get(draw() % humans.size());
                t = come(h, draw() % 2);
            }
            hour++;
            for (Human h : humans) h.hunger = h.hunger > 95 ? 99 : h.hunger + 4;
            if (hour % 8 == 0) {
                for (Item i : items) if (i.there && i.marks[2] < 9) i.marks[2]++;
            }
            return t;
        }

        int there() {
            int n = 0;
            for (Item i : items) if (i.there) n++;
            return n;
        }

        boolean peace() {
            for (Human h : humans) {
                int t = want(h, 0);
                if (t >= 0 && items.get(t).owner != h.number) return false;
            }
            return true;
        }
    }

    /** VOICES by real classes. */
    static class Parted extends RuntimeException {
        private static final long serialVersionUID = 1L;
    }

    static class Person {
        int k;
        int m;
        List<Integer> trace = new ArrayList<>();

        int sniffs(int x) { trace.add(10); return x + k; }
        int marks(int x) { trace.add(11); return sniffs(x) * 2; }
        int swears(int x) { trace.add(12); return marks(x) - m; }
        int parts(int x) {
            trace.add(13);
            if (m == k) throw new Parted();
            return x / (m - k);
        }
    }

    static class Taker extends Person {
        @Override int sniffs(int x) { trace.add(20); return super.sniffs(x) - 4; }
        @Override int parts(int x) { trace.add(21); return super.parts(x) + marks(1); }
    }

    static class Avenger extends Person {
        @Override int marks(int x) { trace.add(30); return 0 - super.marks(x); }
    }

    static class Mistaken extends Person {
        @Override int swears(int x) { trace.add(40); return super.swears(x / 2); }
    }

    static class Habitual extends Taker {
        @Override int sniffs(int x) { trace.add(50); return super.sniffs(x) * 3; }
        @Override int swears(int x) { trace.add(51); return super.swears(x) ^ k; }
    }

    static class Just extends Avenger {
        @Override int marks(int x) { trace.add(60); return super.marks(x + 1); }
    }

    static class Cleaner extends Person {
        @Override int sniffs(int x) { trace.add(70); return 9; }
        @Override int marks(int x) { trace.add(71); return super.marks(x) + m; }
    }

    static Person speaker(String kind) {
        switch (kind) {
            case "Taker": return new Taker();
            case "Avenger": return new Avenger();
            case "Mistaken": return new Mistaken();
            case "Habitual": return new Habitual();
            case "Just": return new Just();
            case "Cleaner": return new Cleaner();
            default: return new Person();
        }
    }

    /** TEXTS as strings. */
    static final class Texts {
        /**
         * Follows every leftmost derivation at once: each is a string of symbols that are still due. T, A, B, S, P, Q
         * with a digit behind (how many of ! and ( are open); lower rest symbols t, a, b, s, p likewise; N with a digit:
         * as many digits may come; D likewise, of which the first must. Whatever else is a byte, quoted by '.
         */
        static int fault(String text, String names) {
            Set<String> due = new HashSet<>();
            due.add("T0");
            for (int i = 0; i < text.length(); i++) {
                Set<String> next = new HashSet<>();
                for (String d : spread(due, names)) {
                    if (d.length() >= 2 && d.charAt(0) == '\'' && d.charAt(1) == text.charAt(i)) next.add(d.substring(2));
                }
                if (next.isEmpty()) return i;
                due = next;
            }
            return spread(due, names).contains("") ? -1 : text.length();
        }

        private static Set<String> spread(Set<String> due, String names) {
            Set<String> all = new HashSet<>(due);
            List<String> work = new ArrayList<>(due);
            while (!work.isEmpty()) {
                String d = work.remove(work.size() - 1);
                for (String e : expansions(d, names)) if (all.add(e)) work.add(e);
            }
            return all;
        }

        private static List<String> expansions(String d, String names) {
            List<String> out = new ArrayList<>();
            if (d.isEmpty() || d.charAt(0) == '\'') return out;
            char sym = d.charAt(0);
            int n = d.charAt(1) - '0';
            String rest = d.substring(2);
            switch (sym) {
                case 'T': out.add("A" + n + "t" + n + rest); break;
                case 't': out.add(rest); out.add("'|A" + n + "t" + n + rest); break;
                case 'A': out.add("B" + n + "a" + n + rest); break;
                case 'a': out.add(rest); out.add("'&B" + n + "a" + n + rest); break;
                case 'B':
                    out.add("S" + n + rest);
                    for (char c : "<=>".toCharArray()) out.add("S" + n + "'" + c + "S" + n + rest);
                    break;
                case 'S': out.add("P" + n + "s" + n + rest); break;
                case 's':
                    out.add(rest);
                    for (char c : "+-".toCharArray()) out.add("'" + c + "P" + n + "s" + n + rest);
                    break;
                case 'P': out.add("Q" + n + "p" + n + rest); break;
                case 'p':
                    out.add(rest);
                    for (char c : "*/%".toCharArray()) out.add("'" + c + "Q" + n + "p" + n + rest);
                    break;
                case 'Q':
                    out.add("D4" + rest);
                    for (char c : names.toCharArray()) out.add("'" + c + rest);
                    if (n < 5) {
                        out.add("'!Q" + (n + 1) + rest);
                        out.add("'(T" + (n + 1) + "')" + rest);
                    }
                    break;
                case 'D': for (char c = '0'; c <= '9'; c++) out.add("'" + c + "N" + (n - 1) + rest); break;
                case 'N':
                    out.add(rest);
                    if (n > 0) for (char c = '0'; c <= '9'; c++) out.add("'" + c + "N" + (n - 1) + rest);
                    break;
                default: throw new IllegalStateException(d);
            }
            return out;
        }

        /** Splits a TEXT at the last sign of the loosest level that stands outside of all brackets. */
        static int value(String text, String names, int[] values) {
            for (String level : new String[] {"|", "&", "<=>", "+-", "*/%"}) {
                int depth = 0;
                for (int i = text.length() - 1; i >= 0; i--) {
                    char c = text.charAt(i);
                    if (c == ')') depth++;
                    if (c == '(') depth--;
                    if (depth == 0 && level.indexOf(c) >= 0) {
                        int l = value(text.substring(0, i), names, values);
                        int r = value(text.substring(i + 1), names, values);
                        return join(c, l, r);
                    }
                }
            }
            if (text.charAt(0) == '!') return value(text.substring(1), names, values) == 0 ? 1 : 0;
            if (text.charAt(0) == '(') return value(text.substring(1, text.length() - 1), names, values);
            int name = names.indexOf(text.charAt(0));
            return name >= 0 ? values[name] : Integer.parseInt(text);
        }

        private static int join(char c, int l, int r) {
            boolean is;
            switch (c) {
                case '+': return l + r;
                case '-': return l - r;
                case '*': return l * r;
                case '/': return r == 0 ? 0 : (int) ((long) l / r);
                case '%': return r == 0 ? 0 : (int) ((long) l % r);
                case '|': is = !(l == 0 && r == 0); break;
                case '&': is = !(l == 0 || r == 0); break;
                case '<': is = l < r; break;
                case '=': is = l == r; break;
                default: is = l > r;
            }
            return is ? 1 : 0;
        }
    }

    private World w = new World();
    private World kept = null;
    private int timesKept = 0;
    private final int[][] rows = new int[4][];
    private final int[] rowBits = new int[4];
    private List<Integer> trace = new ArrayList<>();
    private final int[] told = new int[7];

    private int no(int error) {
        told[-1000000000 - error]++;
        return error;
    }

    private boolean human(int p) {
        return 0 <= p && p < w.humans.size();
    }

    private boolean item(int t) {
        return 0 <= t && t < w.items.size();
    }

    private static boolean bit(int b) {
        return b == 0 || b == 1;
    }

    public int person(int km) {
        if (km < 0 || km > 69) return no(BEYOND);
        if (w.humans.size() == 8) return no(FULL);
        Human h = new Human();
        h.number = w.humans.size();
        h.kind = KIND_NAMES[km / 10];
        h.m = km % 10;
        w.humans.add(h);
        return h.number;
    }

    public int personIs(int person, int what) {
        if (!human(person) || what < 0 || what > 5) return no(BEYOND);
        Human h = w.humans.get(person);
        if (what == 0) return Arrays.asList(KIND_NAMES).indexOf(h.kind);
        if (what == 1) return h.m;
        if (what == 2) return h.hunger;
        if (what == 3) return h.robbed;
        if (what == 4) return h.suspect;
        int n = 0;
        for (Item i : w.items) if (i.there && i.owner == person) n++;
        return n;
    }

    public int become(int person, int km) {
        if (!human(person) || km < 0 || km > 69) return no(BEYOND);
        int was = personIs(person, 0);
        w.humans.get(person).kind = KIND_NAMES[km / 10];
        w.humans.get(person).m = km % 10;
        return was;
    }

    public int as(int person, int kind) {
        if (!human(person) || kind < 0 || kind > 6) return no(BEYOND);
        Human h = w.humans.get(person);
        if (!speaker(KIND_NAMES[kind]).getClass().isInstance(speaker(h.kind))) return no(KIND);
        return h.m;
    }

    public int feel(int person, int what, int v) {
        if (!human(person) || what < 0 || what > 2) return no(BEYOND);
        Human h = w.humans.get(person);
        int was;
        if (what == 0) {
            if (v < 0 || v > 99) return no(BEYOND);
            was = h.hunger;
            h.hunger = v;
        } else if (what == 1) {
            if (v < 0 || v > 9) return no(BEYOND);
            was = h.robbed;
            h.robbed = v;
        } else {
            if (v != -1 && (!human(v) || v == person)) return no(BEYOND);
            was = h.suspect;
            h.suspect = v;
        }
        return was;
    }

    public int thing(int owner, int label, int look, int age) {
        if (!human(owner) || label < 0 || label > 2 || look < 0 || look > 3 || age < 0 || age > 9) return no(BEYOND);
        if (w.items.size() == 10) return no(FULL);
        Item i = new Item();
        i.owner = owner;
        i.marks = new int[] {label, look, age, 0};
        w.items.add(i);
        return w.items.size() - 1;
    }

    public int thingIs(int thing, int what) {
        if (!item(thing) || what < 0 || what > 7) return no(BEYOND);
        Item i = w.items.get(thing);
        int[] all = {i.owner, i.marks[0], i.marks[1], i.marks[2], i.there ? 1 : 0, i.taker, i.marks[3], w.appeal(i)};
        return all[what];
    }

    public int mark(int thing, int what, int v) {
        if (!item(thing) || what < 0 || what > 3) return no(BEYOND);
        if (v < 0 || v > new int[] {2, 3, 9, 1}[what]) return no(BEYOND);
        Item i = w.items.get(thing);
        if (!i.there) return no(STATE);
        int was = i.marks[what];
        i.marks[what] = v;
        return was;
    }

    public int anew(int thing) {
        if (!item(thing)) return no(BEYOND);
        Item i = w.items.get(thing);
        if (i.there) return no(STATE);
        i.there = true;
        i.taker = -1;
        i.marks[2] = 0;
        return w.there();
    }

    public int feed(long word, int n) {
        if (n < 1 || n > 8) return no(BEYOND);
        if (w.tape.length() + n > 60) return no(FULL);
        long rest = word;
        for (int i = 0; i < n; i++) {
            w.tape += (char) (rest & 255);
            rest >>= 8;
        }
        return w.tape.length();
    }

    public int text(int use) {
        if (!bit(use)) return no(BEYOND);
        String text = w.tape;
        w.tape = "";
        int fault = Texts.fault(text, use == 0 ? "loa" : "lso");
        if (fault >= 0) return -10 - fault;
        w.texts[use] = text;
        return 1;
    }

    public int untell(int use) {
        if (!bit(use)) return no(BEYOND);
        int was = w.texts[use] == null ? 0 : 1;
        w.texts[use] = null;
        return was;
    }

    public int law(int use, int a, int b, int c) {
        if (!bit(use)) return no(BEYOND);
        return w.use(use, a, b, c);
    }

    public int urge(int person, int thing) {
        if (!human(person) || !item(thing)) return no(BEYOND);
        return w.urge(w.humans.get(person), w.items.get(thing));
    }

    public int guard(int thing, int seen) {
        if (!item(thing) || !bit(seen)) return no(BEYOND);
        return w.guard(w.items.get(thing), seen);
    }

    public int comes(int person, int seen) {
        if (!human(person) || !bit(seen)) return no(BEYOND);
        return w.come(w.humans.get(person), seen);
    }

    public int hours(int n) {
        if (n < 1 || n > 40) return no(BEYOND);
        if (w.hour + n > 9999) return no(STATE);
        for (int i = 0; i < n; i++) w.hourGoes();
        return w.stolen;
    }

    public int friday(int age) {
        if (age < 0 || age > 9) return no(BEYOND);
        int out = 0;
        for (Item i : w.items) {
            if (i.there && i.marks[2] >= age) {
                i.there = false;
                i.taker = -1;
                out++;
            }
        }
        w.thrown = Math.min(9999, w.thrown + out);
        return out;
    }

    public int seed(int v) {
        int was = w.z;
        w.z = v;
        return was;
    }

    public int wants(int person, int seen, int what) {
        if (!human(person) || !bit(seen) || !bit(what)) return no(BEYOND);
        Human h = w.humans.get(person);
        int t = w.want(h, seen);
        if (what == 0) return t;
        return t < 0 ? 0 : w.pull(h, w.items.get(t), seen);
    }

    public int trap(int thing, int seen) {
        if (!item(thing) || !bit(seen)) return no(BEYOND);
        int set = 0;
        for (Human h : w.humans) if (w.want(h, seen) == thing) set += 1 << h.number;
        return set;
    }

    public int safest(int thing) {
        if (!item(thing)) return no(BEYOND);
        if (!w.items.get(thing).there) return no(STATE);
        int[] many = new int[3];
        for (int label = 0; label < 3; label++) {
            World v = w.copy();
            v.items.get(thing).marks[0] = label;
            for (Human h : v.humans) {
                if (h.number == v.items.get(thing).owner) continue;
                for (int seen = 0; seen < 2; seen++) if (v.want(h, seen) == thing) many[label]++;
            }
        }
        if (many[0] <= many[1] && many[0] <= many[2]) return 0;
        return many[1] <= many[2] ? 1 : 2;
    }

    public int lock(int what) {
        if (!bit(what)) return no(BEYOND);
        World v = w.copy();
        int can = 0;
        for (int t = 0; t < v.items.size(); t++) if (v.items.get(t).there && v.items.get(t).marks[3] == 0) can |= 1 << t;
        int best = -1;
        for (int set = 0; set <= can; set++) {
            if ((set & ~can) != 0) continue;
            if (best >= 0 && Integer.bitCount(set) >= Integer.bitCount(best)) continue;
            for (int t = 0; t < v.items.size(); t++) {
                if ((can >> t & 1) == 1) v.items.get(t).marks[3] = set >> t & 1;
            }
            if (v.peace()) best = set;
        }
        return what == 0 ? Integer.bitCount(best) : best;
    }

    public int round(int person, int what) {
        if (!human(person) || !bit(what)) return no(BEYOND);
        List<Integer> path = new ArrayList<>();
        int at = person;
        while (!path.contains(at)) {
            path.add(at);
            int t = w.want(w.humans.get(at), 0);
            if (t < 0 || w.items.get(t).owner == at) return what == 0 ? path.size() - 1 : 0;
            at = w.items.get(t).owner;
        }
        return what == 0 ? path.indexOf(at) : path.size() - path.indexOf(at);
    }

    public int odds(int thing, int part) {
        if (!item(thing) || !bit(part)) return no(BEYOND);
        int above = 0;
        int below = 0;
        for (Human h : w.humans) {
            for (int seen = 0; seen < 2; seen++) {
                below++;
                if (w.want(h, seen) == thing) above++;
            }
        }
        int a = above;
        int b = below;
        while (a != 0) {
            int r = b % a;
            b = a;
            a = r;
        }
        return part == 0 ? above / b : below / b;
    }

    private int rowFault(int sheet) {
        if (sheet < 0 || sheet > 3) return BEYOND;
        return rows[sheet] == null ? NONE : 0;
    }

    public int who(int sheet) {
        if (rowFault(sheet) != 0) return no(rowFault(sheet));
        int set = 0;
        for (int p = 0; p < w.humans.size(); p++) {
            World v = w.copy();
            boolean all = true;
            for (int t : rows[sheet]) {
                if (!all) break;
                int took = v.come(v.humans.get(p), 0);
                all = took >= 0 && took == t;
            }
            if (all) set += 1 << p;
        }
        return set;
    }

    public int lost(int n, int what) {
        if (n < 0 || n > 60 || !bit(what)) return no(BEYOND);
        World v = w.copy();
        for (int i = 0; i < n; i++) v.hourGoes();
        return what == 0 ? v.stolen : v.there();
    }

    public int oldest() {
        for (int age = 9; age >= 0; age--) {
            for (int t = 0; t < w.items.size(); t++) {
                if (w.items.get(t).there && w.items.get(t).marks[2] == age) return t;
            }
        }
        return no(NONE);
    }

    public int voice(int person, int voice, int x) {
        if (!human(person) || voice < 0 || voice > 3) return no(BEYOND);
        Person s = speaker(w.humans.get(person).kind);
        s.k = person;
        s.m = w.humans.get(person).m;
        trace = s.trace;
        try {
            return voice == 0 ? s.sniffs(x) : voice == 1 ? s.marks(x) : voice == 2 ? s.swears(x) : s.parts(x);
        } catch (Parted e) {
            return no(PARTED);
        }
    }

    public int body(int i) {
        return i >= 0 && i < trace.size() ? trace.get(i) : no(NONE);
    }

    public int sheet(int sheet, int bits, int n) {
        if (sheet < 0 || sheet > 3) return no(BEYOND);
        if (bits == 0) {
            rows[sheet] = null;
            return 1;
        }
        if (bits != 8 && bits != 16 && bits != 32) return no(BEYOND);
        if (n < 0) return no(STATE);
        if (n > 24) return no(BEYOND);
        rows[sheet] = new int[n];
        rowBits[sheet] = bits;
        return 1;
    }

    public int put(int sheet, int i, int v) {
        if (rowFault(sheet) != 0) return no(rowFault(sheet));
        if (i < 0 || i >= rows[sheet].length) return no(BEYOND);
        int shift = 32 - rowBits[sheet];
        rows[sheet][i] = v << shift >> shift;
        return 1;
    }

    public int move(int sheet, int i, int other, int j, int n) {
        if (rowFault(sheet) == BEYOND || rowFault(other) == BEYOND) return no(BEYOND);
        if (rowFault(sheet) == NONE || rowFault(other) == NONE) return no(NONE);
        if (rowBits[sheet] != rowBits[other]) return no(KIND);
        if (n < 0 || i < 0 || j < 0) return no(BEYOND);
        if ((long) i + n > rows[sheet].length || (long) j + n > rows[other].length) return no(BEYOND);
        int[] were = rows[sheet].clone();
        for (int q = 0; q < n; q++) rows[other][j + q] = were[i + q];
        return n;
    }

    public int labels(int sheet) {
        if (rowFault(sheet) != 0) return no(rowFault(sheet));
        int many = 0;
        for (int v : rows[sheet]) {
            if (v < 0 || v > 2 || !item(many)) return many;
            w.items.get(many++).marks[0] = v;
        }
        return many;
    }

    public int judge(int sheet) {
        if (rowFault(sheet) != 0) return no(rowFault(sheet));
        World v = w.copy();
        int right = 0;
        for (int t : rows[sheet]) {
            if (v.hourGoes() != t) return right;
            right++;
        }
        return right;
    }

    public int image() {
        kept = w.copy();
        return ++timesKept;
    }

    public int restore() {
        if (kept == null) return no(NONE);
        w = kept.copy();
        return w.hour;
    }

    public int tell(int v) {
        if (w.waiting.size() == 24) return no(FULL);
        w.waiting.add(v);
        return w.waiting.size();
    }

    public int check() {
        List<Integer> were = w.waiting;
        w.waiting = new ArrayList<>();
        for (int i = 0; i < were.size(); i++) {
            if (!human(i) || w.humans.get(i).hunger != were.get(i)) return i + 1;
        }
        return 0;
    }

    public int count(int what) {
        if (what < 0 || what > 10) return no(BEYOND);
        int[] all = {w.humans.size(), w.items.size(), w.there(), w.hour, w.stolen, w.eaten, w.thrown, w.tape.length(),
            w.waiting.size(), trace.size(), w.z};
        return all[what];
    }

    public int told(int k) {
        return k < 1 || k > 6 ? no(BEYOND) : told[k];
    }
}
