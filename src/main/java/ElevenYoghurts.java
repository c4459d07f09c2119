import java.util.Arrays;

/** An office fridge: whose the things in it are, who comes and takes which of them, and what would be, if. */
public final class ElevenYoghurts {
    private static final int LOW = -1000000000;
    private static final int BEYOND = LOW - 1;
    private static final int NONE = LOW - 2;
    private static final int STATE = LOW - 3;
    private static final int FULL = LOW - 4;
    private static final int KIND = LOW - 5;
    private static final int PARTED = LOW - 6;
    private static final int ERRORS = 6;

    private static final int NOBODY = -1;
    private static final int NOTHING = -1;

    private static final int MOST_PEOPLE = 8;
    private static final int MOST_THINGS = 10;
    private static final int MOST_BYTES = 60;
    private static final int MOST_WAITING = 24;
    private static final int MOST_HOURS = 9999;
    private static final int MOST_HOURS_A_CALL = 40;
    private static final int MOST_HOURS_AHEAD = 60;
    private static final int MOST_COUNTED = 9999;
    private static final int SHEETS = 4;
    private static final int MOST_NUMBERS = 24;

    private static final int KINDS = 7;
    private static final int TAKER = 1;
    private static final int AVENGER = 2;
    private static final int MISTAKEN = 3;
    private static final int HABITUAL = 4;
    private static final int JUST = 5;
    private static final int CLEANER = 6;
    private static final int[] KIND_ABOVE = {-1, 0, 0, 0, 1, 2, 0};

    private static final int APPEAL = 0;
    private static final int GUARD = 1;
    private static final int USES = 2;

    private static final int MOST_HUNGER = 99;
    private static final int MOST_ROBBED = 9;
    private static final int MOST_LABEL = 2;
    private static final int MOST_LOOK = 3;
    private static final int MOST_AGE = 9;
    /** The greatest LABEL, LOOK, AGE and LOCKED, as mark() numbers them. */
    private static final int[] MOST_MARK = {MOST_LABEL, MOST_LOOK, MOST_AGE, 1};

    private final Fridge now = new Fridge();
    private final Fridge kept = new Fridge();
    /** What is only thought happens here, so that nothing of it has to be undone. */
    private final Fridge thought = new Fridge();
    private final Reader reader = new Reader();
    private final Voices voices = new Voices();
    private final Sheet[] sheets = new Sheet[SHEETS];
    private final int[] refused = new int[ERRORS + 1];
    private final int[] reached = new int[MOST_PEOPLE];
    private int timesKept;

    public ElevenYoghurts() {
        for (int i = 0; i < SHEETS; i++) {
            sheets[i] = new Sheet();
        }
    }

    // ---- people, things

    public int person(int km) {
        if (!isKindAndNumber(km)) {
            return refuse(BEYOND);
        }
        if (now.peopleCount >= MOST_PEOPLE) {
            return refuse(FULL);
        }
        int person = now.peopleCount;
        now.people[person].arrive(km);
        now.peopleCount++;
        return person;
    }

    public int personIs(int person, int what) {
        Person one = now.personAt(person);
        if (one == null) {
            return refuse(BEYOND);
        }
        switch (what) {
            case 0: return one.kind;
            case 1: return one.m;
            case 2: return one.hunger;
            case 3: return one.robbed;
            case 4: return one.suspect;
            case 5: return now.insideOf(one);
            default: return refuse(BEYOND);
        }
    }

    public int become(int person, int km) {
        Person one = now.personAt(person);
        if (one == null || !isKindAndNumber(km)) {
            return refuse(BEYOND);
        }
        int before = one.kind;
        one.turnInto(km);
        return before;
    }

    public int as(int person, int kind) {
        Person one = now.personAt(person);
        if (one == null || !isIn(kind, 0, KINDS - 1)) {
            return refuse(BEYOND);
        }
        if (!one.isOfKind(kind)) {
            return refuse(KIND);
        }
        return one.m;
    }

    public int feel(int person, int what, int v) {
        Person one = now.personAt(person);
        if (one == null || !canFeel(one, what, v)) {
            return refuse(BEYOND);
        }
        int before;
        switch (what) {
            case 0:
                before = one.hunger;
                one.hunger = v;
                return before;
            case 1:
                before = one.robbed;
                one.robbed = v;
                return before;
            default:
                before = one.suspect;
                one.suspect = v;
                return before;
        }
    }

    public int thing(int owner, int label, int look, int age) {
        if (now.personAt(owner) == null || !isIn(label, 0, MOST_LABEL)
                || !isIn(look, 0, MOST_LOOK) || !isIn(age, 0, MOST_AGE)) {
            return refuse(BEYOND);
        }
        if (now.thingCount >= MOST_THINGS) {
            return refuse(FULL);
        }
        int thing = now.thingCount;
        now.things[thing].arrive(owner, label, look, age);
        now.thingCount++;
        return thing;
    }

    public int thingIs(int thing, int what) {
        Thing one = now.thingAt(thing);
        if (one == null) {
            return refuse(BEYOND);
        }
        switch (what) {
            case 0: return one.owner;
            case 1: return one.label;
            case 2: return one.look;
            case 3: return one.age;
            case 4: return one.inside ? 1 : 0;
            case 5: return one.taker;
            case 6: return one.locked;
            case 7: return now.appealOf(one);
            default: return refuse(BEYOND);
        }
    }

    public int mark(int thing, int what, int v) {
        Thing one = now.thingAt(thing);
        if (one == null || !isIn(what, 0, MOST_MARK.length - 1) || !isIn(v, 0, MOST_MARK[what])) {
            return refuse(BEYOND);
        }
        if (!one.inside) {
            return refuse(STATE);
        }
        int before;
        switch (what) {
            case 0:
                before = one.label;
                one.label = v;
                return before;
            case 1:
                before = one.look;
                one.look = v;
                return before;
            case 2:
                before = one.age;
                one.age = v;
                return before;
            default:
                before = one.locked;
                one.locked = v;
                return before;
        }
    }

    public int anew(int thing) {
        Thing one = now.thingAt(thing);
        if (one == null) {
            return refuse(BEYOND);
        }
        if (one.inside) {
            return refuse(STATE);
        }
        one.comeBack();
        return now.inside();
    }

    // ---- texts

    public int feed(long word, int n) {
        if (!isIn(n, 1, 8)) {
            return refuse(BEYOND);
        }
        if (now.tapeLength + n > MOST_BYTES) {
            return refuse(FULL);
        }
        for (int i = 0; i < n; i++) {
            now.tape[now.tapeLength] = (byte) (word >>> (8 * i));
            now.tapeLength++;
        }
        return now.tapeLength;
    }

    public int text(int use) {
        if (!isUse(use)) {
            return refuse(BEYOND);
        }
        int fault = reader.faultOf(now.tape, now.tapeLength, use);
        now.tapeLength = 0;
        if (fault != Reader.NO_FAULT) {
            return -10 - fault;
        }
        now.lawOf(use).copyFrom(reader.draft);
        return 1;
    }

    public int untell(int use) {
        if (!isUse(use)) {
            return refuse(BEYOND);
        }
        Law ahead = now.lawOf(use);
        int was = ahead.hasText() ? 1 : 0;
        ahead.clear();
        return was;
    }

    public int law(int use, int a, int b, int c) {
        if (!isUse(use)) {
            return refuse(BEYOND);
        }
        return now.lawOf(use).gives(a, b, c);
    }

    // ---- who comes

    public int urge(int person, int thing) {
        Person one = now.personAt(person);
        Thing what = now.thingAt(thing);
        if (one == null || what == null) {
            return refuse(BEYOND);
        }
        return one.urgeFor(what, now.appealOf(what));
    }

    public int guard(int thing, int seen) {
        Thing one = now.thingAt(thing);
        if (one == null || !isIn(seen, 0, 1)) {
            return refuse(BEYOND);
        }
        return now.guardLaw.gives(one.label, seen, one.look);
    }

    public int comes(int person, int seen) {
        Person one = now.personAt(person);
        if (one == null || !isIn(seen, 0, 1)) {
            return refuse(BEYOND);
        }
        return now.takenBy(one, seen);
    }

    public int hours(int n) {
        if (!isIn(n, 1, MOST_HOURS_A_CALL)) {
            return refuse(BEYOND);
        }
        if (now.hour + n > MOST_HOURS) {
            return refuse(STATE);
        }
        for (int i = 0; i < n; i++) {
            now.hourByDraws();
        }
        return now.stolen;
    }

    public int friday(int age) {
        if (!isIn(age, 0, MOST_AGE)) {
            return refuse(BEYOND);
        }
        return now.throwOut(age);
    }

    public int seed(int v) {
        int before = now.z;
        now.z = v;
        return before;
    }

    // ---- what would be

    public int wants(int person, int seen, int what) {
        Person one = now.personAt(person);
        if (one == null || !isIn(seen, 0, 1) || !isIn(what, 0, 1)) {
            return refuse(BEYOND);
        }
        int thing = now.wantedBy(one, seen);
        if (what == 0) {
            return thing;
        }
        Thing wanted = now.thingAt(thing);
        return wanted == null ? 0 : now.pullOf(one, wanted, seen);
    }

    public int trap(int thing, int seen) {
        if (now.thingAt(thing) == null || !isIn(seen, 0, 1)) {
            return refuse(BEYOND);
        }
        return now.wantersOf(thing, seen);
    }

    public int safest(int thing) {
        Thing one = now.thingAt(thing);
        if (one == null) {
            return refuse(BEYOND);
        }
        if (!one.inside) {
            return refuse(STATE);
        }
        thought.copyFrom(now);
        int safest = 0;
        int fewest = 2 * MOST_PEOPLE + 1;
        for (int label = 0; label <= MOST_LABEL; label++) {
            thought.things[thing].label = label;
            int others = othersWanting(thing, 0) + othersWanting(thing, 1);
            if (others < fewest) {
                fewest = others;
                safest = label;
            }
        }
        return safest;
    }

    public int lock(int what) {
        if (!isIn(what, 0, 1)) {
            return refuse(BEYOND);
        }
        int set = locksForPeace();
        return what == 0 ? Integer.bitCount(set) : set;
    }

    public int round(int person, int what) {
        if (now.personAt(person) == null || !isIn(what, 0, 1)) {
            return refuse(BEYOND);
        }
        Arrays.fill(reached, NOBODY);
        int at = person;
        int steps = 0;
        while (steps < MOST_PEOPLE && isIn(at, 0, MOST_PEOPLE - 1) && reached[at] == NOBODY) {
            reached[at] = steps;
            steps++;
            at = now.robbedBy(at);
        }
        if (!isIn(at, 0, MOST_PEOPLE - 1)) {
            return what == 0 ? steps - 1 : 0;
        }
        return what == 0 ? reached[at] : steps - reached[at];
    }

    public int odds(int thing, int part) {
        if (now.thingAt(thing) == null || !isIn(part, 0, 1)) {
            return refuse(BEYOND);
        }
        int above = Integer.bitCount(now.wantersOf(thing, 0)) + Integer.bitCount(now.wantersOf(thing, 1));
        int below = 2 * now.peopleCount;
        int common = greatestCommon(above, below);
        return part == 0 ? above / common : below / common;
    }

    public int who(int sheet) {
        Sheet row = sheetAt(sheet);
        if (row == null) {
            return refuse(BEYOND);
        }
        if (row.isMissing()) {
            return refuse(NONE);
        }
        int set = 0;
        for (int p = 0; p < now.peopleCount; p++) {
            if (wouldTake(p, row)) {
                set |= 1 << p;
            }
        }
        return set;
    }

    public int lost(int n, int what) {
        if (!isIn(n, 0, MOST_HOURS_AHEAD) || !isIn(what, 0, 1)) {
            return refuse(BEYOND);
        }
        thought.copyFrom(now);
        for (int i = 0; i < n; i++) {
            thought.hourByDraws();
        }
        return what == 0 ? thought.stolen : thought.inside();
    }

    public int oldest() {
        int oldest = NOTHING;
        int greatest = -1;
        for (int t = 0; t < now.thingCount; t++) {
            if (now.things[t].inside && now.things[t].age > greatest) {
                greatest = now.things[t].age;
                oldest = t;
            }
        }
        return oldest == NOTHING ? refuse(NONE) : oldest;
    }

    // ---- voices, sheets, images, what is told

    public int voice(int person, int voice, int x) {
        Person one = now.personAt(person);
        if (one == null || !isIn(voice, 0, Voices.VOICES - 1)) {
            return refuse(BEYOND);
        }
        return voices.speaks(one, voice, x) ? voices.answer : refuse(PARTED);
    }

    public int body(int i) {
        return isIn(i, 0, voices.traceLength - 1) ? voices.trace[i] : refuse(NONE);
    }

    public int sheet(int sheet, int bits, int n) {
        Sheet row = sheetAt(sheet);
        if (row == null || bits != 0 && bits != 8 && bits != 16 && bits != 32) {
            return refuse(BEYOND);
        }
        if (bits != 0 && n < 0) {
            return refuse(STATE);
        }
        if (bits != 0 && n > MOST_NUMBERS) {
            return refuse(BEYOND);
        }
        row.lay(bits, bits == 0 ? 0 : n);
        return 1;
    }

    public int put(int sheet, int i, int v) {
        Sheet row = sheetAt(sheet);
        if (row == null) {
            return refuse(BEYOND);
        }
        if (row.isMissing()) {
            return refuse(NONE);
        }
        if (!row.holds(i, 1)) {
            return refuse(BEYOND);
        }
        row.write(i, v);
        return 1;
    }

    public int move(int sheet, int i, int other, int j, int n) {
        Sheet from = sheetAt(sheet);
        Sheet to = sheetAt(other);
        if (from == null || to == null) {
            return refuse(BEYOND);
        }
        if (from.isMissing() || to.isMissing()) {
            return refuse(NONE);
        }
        if (from.bits != to.bits) {
            return refuse(KIND);
        }
        if (!from.holds(i, n) || !to.holds(j, n)) {
            return refuse(BEYOND);
        }
        System.arraycopy(from.numbers, i, to.numbers, j, n);
        return n;
    }

    public int labels(int sheet) {
        Sheet row = sheetAt(sheet);
        if (row == null) {
            return refuse(BEYOND);
        }
        if (row.isMissing()) {
            return refuse(NONE);
        }
        int many = 0;
        while (many < row.size && many < now.thingCount && isIn(row.numbers[many], 0, MOST_LABEL)) {
            now.things[many].label = row.numbers[many];
            many++;
        }
        return many;
    }

    public int judge(int sheet) {
        Sheet row = sheetAt(sheet);
        if (row == null) {
            return refuse(BEYOND);
        }
        if (row.isMissing()) {
            return refuse(NONE);
        }
        thought.copyFrom(now);
        int right = 0;
        while (right < row.size && thought.hourByDraws() == row.numbers[right]) {
            right++;
        }
        return right;
    }

    public int image() {
        kept.copyFrom(now);
        timesKept++;
        return timesKept;
    }

    public int restore() {
        if (timesKept == 0) {
            return refuse(NONE);
        }
        now.copyFrom(kept);
        return now.hour;
    }

    public int tell(int v) {
        if (now.waitingCount >= MOST_WAITING) {
            return refuse(FULL);
        }
        now.waiting[now.waitingCount] = v;
        now.waitingCount++;
        return now.waitingCount;
    }

    public int check() {
        int waiting = now.waitingCount;
        now.waitingCount = 0;
        for (int i = 0; i < waiting; i++) {
            Person one = now.personAt(i);
            if (one == null || one.hunger != now.waiting[i]) {
                return 1 + i;
            }
        }
        return 0;
    }

    public int count(int what) {
        switch (what) {
            case 0: return now.peopleCount;
            case 1: return now.thingCount;
            case 2: return now.inside();
            case 3: return now.hour;
            case 4: return now.stolen;
            case 5: return now.eaten;
            case 6: return now.thrown;
            case 7: return now.tapeLength;
            case 8: return now.waitingCount;
            case 9: return voices.traceLength;
            case 10: return now.z;
            default: return refuse(BEYOND);
        }
    }

    public int told(int k) {
        return isIn(k, 1, ERRORS) ? refused[k] : refuse(BEYOND);
    }

    private int refuse(int error) {
        int k = LOW - error;
        if (isIn(k, 1, ERRORS)) {
            refused[k]++;
        }
        return error;
    }

    private static boolean isIn(int v, int least, int most) {
        return v >= least && v <= most;
    }

    private static boolean isUse(int use) {
        return isIn(use, 0, USES - 1);
    }

    private static boolean isKindAndNumber(int km) {
        return isIn(km, 0, 10 * KINDS - 1);
    }

    private boolean canFeel(Person one, int what, int v) {
        switch (what) {
            case 0: return isIn(v, 0, MOST_HUNGER);
            case 1: return isIn(v, 0, MOST_ROBBED);
            case 2: return v == NOBODY || v != one.k && now.personAt(v) != null;
            default: return false;
        }
    }

    private Sheet sheetAt(int sheet) {
        return isIn(sheet, 0, SHEETS - 1) ? sheets[sheet] : null;
    }

    private int othersWanting(int thing, int seen) {
        int owner = thought.things[thing].owner;
        return Integer.bitCount(thought.wantersOf(thing, seen) & ~(1 << owner));
    }

    /**
     * Who wants another's thing would want it, too, if more were locked: nothing that he likes better comes to it.
     * So every set that brings PEACE holds it, and what is locked step by step is the least of these sets.
     */
    private int locksForPeace() {
        thought.copyFrom(now);
        int set = 0;
        for (int i = 0; i < MOST_THINGS; i++) {
            int thing = thought.firstToBeStolen();
            if (thing == NOTHING) {
                return set;
            }
            thought.things[thing].locked = 1;
            set |= 1 << thing;
        }
        return set;
    }

    private static int greatestCommon(int above, int below) {
        for (int d = below; d > 1; d--) {
            if (above % d == 0 && below % d == 0) {
                return d;
            }
        }
        return 1;
    }

    private boolean wouldTake(int person, Sheet row) {
        thought.copyFrom(now);
        for (int i = 0; i < row.size; i++) {
            int thing = thought.takenBy(thought.people[person], 0);
            if (thing == NOTHING || thing != row.numbers[i]) {
                return false;
            }
        }
        return true;
    }

    /** One of the PEOPLE. */
    private static final class Person {
        final int k;
        int kind;
        int m;
        int hunger;
        int robbed;
        int suspect;

        Person(int k) {
            this.k = k;
        }

        void arrive(int km) {
            turnInto(km);
            hunger = 10;
            robbed = 0;
            suspect = NOBODY;
        }

        void turnInto(int km) {
            kind = km / 10;
            m = km % 10;
        }

        void copyFrom(Person other) {
            kind = other.kind;
            m = other.m;
            hunger = other.hunger;
            robbed = other.robbed;
            suspect = other.suspect;
        }

        boolean isOfKind(int wanted) {
            int at = kind;
            for (int i = 0; i < KINDS && isIn(at, 0, KINDS - 1); i++) {
                if (at == wanted) {
                    return true;
                }
                at = KIND_ABOVE[at];
            }
            return false;
        }

        boolean owns(Thing thing) {
            return thing.owner == k;
        }

        int urgeFor(Thing thing, int appeal) {
            boolean own = owns(thing);
            int asPerson = own ? 50 + hunger : 0;
            int asTaker = own ? asPerson : Math.max(0, appeal + hunger / 2 - 20);
            int asAvenger = own || robbed == 0 ? asPerson : 15 * robbed + appeal / 2;
            switch (kind) {
                case TAKER: return asTaker;
                case AVENGER: return asAvenger;
                case MISTAKEN: return appeal;
                case HABITUAL: return asTaker + m;
                case JUST: return own || thing.owner == suspect ? asAvenger : 0;
                case CLEANER: return thing.age >= m ? 30 : 0;
                default: return asPerson;
            }
        }

        void hungerForAnHour() {
            hunger = Math.min(MOST_HUNGER, hunger + 4);
        }

        void loseOne() {
            robbed = Math.min(MOST_ROBBED, robbed + 1);
        }
    }

    /** One of the THINGS. */
    private static final class Thing {
        int owner;
        int label;
        int look;
        int age;
        int locked;
        boolean inside;
        int taker;

        void arrive(int hisNumber, int itsLabel, int itsLook, int itsAge) {
            owner = hisNumber;
            label = itsLabel;
            look = itsLook;
            age = itsAge;
            locked = 0;
            inside = true;
            taker = NOBODY;
        }

        void copyFrom(Thing other) {
            owner = other.owner;
            label = other.label;
            look = other.look;
            age = other.age;
            locked = other.locked;
            inside = other.inside;
            taker = other.taker;
        }

        boolean canBeTaken() {
            return inside && locked == 0;
        }

        void leave(int whoTookIt) {
            inside = false;
            taker = whoTookIt;
        }

        void comeBack() {
            inside = true;
            taker = NOBODY;
            age = 0;
        }

        void grow() {
            age = Math.min(MOST_AGE, age + 1);
        }
    }

    /** All that an IMAGE keeps. */
    private static final class Fridge {
        final Person[] people = new Person[MOST_PEOPLE];
        final Thing[] things = new Thing[MOST_THINGS];
        final Law appealLaw = new Law(APPEAL);
        final Law guardLaw = new Law(GUARD);
        final byte[] tape = new byte[MOST_BYTES];
        final int[] waiting = new int[MOST_WAITING];
        int peopleCount;
        int thingCount;
        int tapeLength;
        int waitingCount;
        int hour;
        int stolen;
        int eaten;
        int thrown;
        int z = 1;

        Fridge() {
            for (int p = 0; p < MOST_PEOPLE; p++) {
                people[p] = new Person(p);
            }
            for (int t = 0; t < MOST_THINGS; t++) {
                things[t] = new Thing();
            }
        }

        void copyFrom(Fridge other) {
            peopleCount = other.peopleCount;
            thingCount = other.thingCount;
            tapeLength = other.tapeLength;
            waitingCount = other.waitingCount;
            hour = other.hour;
            stolen = other.stolen;
            eaten = other.eaten;
            thrown = other.thrown;
            z = other.z;
            for (int p = 0; p < peopleCount; p++) {
                people[p].copyFrom(other.people[p]);
            }
            for (int t = 0; t < thingCount; t++) {
                things[t].copyFrom(other.things[t]);
            }
            appealLaw.copyFrom(other.appealLaw);
            guardLaw.copyFrom(other.guardLaw);
            System.arraycopy(other.tape, 0, tape, 0, MOST_BYTES);
            System.arraycopy(other.waiting, 0, waiting, 0, MOST_WAITING);
        }

        Person personAt(int p) {
            return isIn(p, 0, peopleCount - 1) ? people[p] : null;
        }

        Thing thingAt(int t) {
            return isIn(t, 0, thingCount - 1) ? things[t] : null;
        }

        Law lawOf(int use) {
            return use == APPEAL ? appealLaw : guardLaw;
        }

        int inside() {
            int many = 0;
            for (int t = 0; t < thingCount; t++) {
                many += things[t].inside ? 1 : 0;
            }
            return many;
        }

        int insideOf(Person one) {
            int many = 0;
            for (int t = 0; t < thingCount; t++) {
                many += things[t].inside && one.owns(things[t]) ? 1 : 0;
            }
            return many;
        }

        int appealOf(Thing thing) {
            return appealLaw.gives(thing.label, thing.look, thing.age);
        }

        /** URGE less GUARD, of his own without GUARD; asks the laws themselves, to keep the calls eight deep. */
        int pullOf(Person one, Thing thing, int seen) {
            int urge = one.urgeFor(thing, appealLaw.gives(thing.label, thing.look, thing.age));
            return one.owns(thing) ? urge : urge - guardLaw.gives(thing.label, seen, thing.look);
        }

        int wantedBy(Person one, int seen) {
            int wanted = NOTHING;
            int most = 0;
            for (int t = 0; t < thingCount; t++) {
                int pull = things[t].canBeTaken() ? pullOf(one, things[t], seen) : 0;
                if (pull > most) {
                    most = pull;
                    wanted = t;
                }
            }
            return wanted;
        }

        int wantersOf(int thing, int seen) {
            int set = 0;
            for (int p = 0; p < peopleCount; p++) {
                if (wantedBy(people[p], seen) == thing) {
                    set |= 1 << p;
                }
            }
            return set;
        }

        /** Whose THING one wants, not SEEN, if it is another's; else NOBODY. */
        int robbedBy(int p) {
            Person one = personAt(p);
            Thing wanted = one == null ? null : thingAt(wantedBy(one, 0));
            return wanted == null || one.owns(wanted) ? NOBODY : wanted.owner;
        }

        int firstToBeStolen() {
            for (int p = 0; p < peopleCount; p++) {
                int t = wantedBy(people[p], 0);
                if (t != NOTHING && !people[p].owns(things[t])) {
                    return t;
                }
            }
            return NOTHING;
        }

        int takenBy(Person one, int seen) {
            int t = wantedBy(one, seen);
            Thing thing = thingAt(t);
            if (thing == null) {
                return NOTHING;
            }
            thing.leave(one.k);
            if (one.kind == CLEANER) {
                thrown = Math.min(MOST_COUNTED, thrown + 1);
            } else {
                eat(one, thing);
            }
            return t;
        }

        void eat(Person one, Thing thing) {
            one.hunger = 0;
            if (one.owns(thing)) {
                eaten = Math.min(MOST_COUNTED, eaten + 1);
                return;
            }
            stolen = Math.min(MOST_COUNTED, stolen + 1);
            Person owner = personAt(thing.owner);
            if (owner != null) {
                owner.loseOne();
            }
        }

        int throwOut(int age) {
            int out = 0;
            for (int t = 0; t < thingCount; t++) {
                if (things[t].inside && things[t].age >= age) {
                    things[t].leave(NOBODY);
                    out++;
                }
            }
            thrown = Math.min(MOST_COUNTED, thrown + out);
            return out;
        }

        int drawnBelow(int many) {
            z = z * 1103515245 + 12345;
            return many > 0 ? (z >>> 8) % many : 0;
        }

        /** What is taken in an HOUR BY DRAWS. */
        int hourByDraws() {
            int taken = NOTHING;
            if (peopleCount > 0) {
                Person one = personAt(drawnBelow(peopleCount));
                int seen = drawnBelow(2);
                taken = one == null ? NOTHING : takenBy(one, seen);
            }
            hourGoes();
            return taken;
        }

        void hourGoes() {
            hour++;
            for (int p = 0; p < peopleCount; p++) {
                people[p].hungerForAnHour();
            }
            if (hour % 8 != 0) {
                return;
            }
            for (int t = 0; t < thingCount; t++) {
                if (things[t].inside) {
                    things[t].grow();
                }
            }
        }
    }

    /** What a USE gives: its TEXT with the signs behind what they join, or what holds without one. */
    private static final class Law {
        /** A sign of its own for any NUMBER and any NAME; what joins bears the sign of the TEXT. */
        static final int NUMBER = 'n';
        static final int NAME = 'v';

        final int use;
        final int[] signs = new int[MOST_BYTES];
        final int[] values = new int[MOST_BYTES];
        final int[] stack = new int[MOST_BYTES];
        int length;

        Law(int use) {
            this.use = use;
        }

        void clear() {
            length = 0;
        }

        boolean hasText() {
            return length > 0;
        }

        void copyFrom(Law other) {
            length = other.length;
            System.arraycopy(other.signs, 0, signs, 0, MOST_BYTES);
            System.arraycopy(other.values, 0, values, 0, MOST_BYTES);
        }

        void append(int sign, int value) {
            if (length < MOST_BYTES) {
                signs[length] = sign;
                values[length] = value;
                length++;
            }
        }

        int gives(int a, int b, int c) {
            int v;
            if (hasText()) {
                v = workedOut(a, b, c);
            } else if (use == APPEAL) {
                v = 20 + 10 * b - 3 * c;
            } else {
                v = 10 * a + 20 * b;
            }
            return Math.max(0, Math.min(99, v));
        }

        private int workedOut(int a, int b, int c) {
            int top = -1;
            for (int i = 0; i < length; i++) {
                int sign = signs[i];
                if (sign == NUMBER || sign == NAME) {
                    top++;
                    if (isIn(top, 0, stack.length - 1)) {
                        stack[top] = sign == NUMBER ? values[i] : named(values[i], a, b, c);
                    }
                } else if (sign == '!') {
                    if (isIn(top, 0, stack.length - 1)) {
                        stack[top] = stack[top] == 0 ? 1 : 0;
                    }
                } else {
                    top--;
                    if (isIn(top, 0, stack.length - 2)) {
                        stack[top] = joined(sign, stack[top], stack[top + 1]);
                    }
                }
            }
            return stack[0];
        }

        private static int named(int place, int a, int b, int c) {
            return place == 0 ? a : place == 1 ? b : c;
        }

        private static int joined(int sign, int l, int r) {
            switch (sign) {
                case '|': return l != 0 || r != 0 ? 1 : 0;
                case '&': return l != 0 && r != 0 ? 1 : 0;
                case '<': return l < r ? 1 : 0;
                case '=': return l == r ? 1 : 0;
                case '>': return l > r ? 1 : 0;
                case '+': return l + r;
                case '-': return l - r;
                case '*': return l * r;
                case '/': return r == 0 ? 0 : l / r;
                default: return r == 0 ? 0 : l % r;
            }
        }
    }

    /** Reads a TEXT from THE TAPE into a draft. */
    private static final class Reader {
        static final int NO_FAULT = -1;
        private static final int MOST_OPEN = 5;
        private static final int MOST_DIGITS = 4;
        /** The levels of what joins, the loosest first: T, A, B, S, P. */
        private static final int LEVELS = 5;
        private static final int COMPARING = 2;

        final Law draft = new Law(APPEAL);
        private byte[] tape = new byte[0];
        private int length;
        private int at;
        private String names = "";

        int faultOf(byte[] bytes, int many, int use) {
            tape = bytes;
            length = Math.min(many, bytes.length);
            names = use == APPEAL ? "loa" : "lso";
            at = 0;
            draft.clear();
            return readsChain(0, 0) && at >= length ? NO_FAULT : at;
        }

        /** Reads what a level joins; if it can't, at stands at the FAULT. */
        private boolean readsChain(int level, int open) {
            if (level >= LEVELS) {
                return readsOperand(open);
            }
            if (!readsChain(level + 1, open)) {
                return false;
            }
            while (at < length && levelOf(tape[at]) == level) {
                int sign = tape[at];
                at++;
                if (!readsChain(level + 1, open)) {
                    return false;
                }
                draft.append(sign, 0);
                if (level == COMPARING) {
                    return true;
                }
            }
            return true;
        }

        private boolean readsOperand(int open) {
            if (at >= length) {
                return false;
            }
            int sign = tape[at];
            if (isIn(sign, '0', '9')) {
                readNumber();
                return true;
            }
            int name = sign > 0 ? names.indexOf((char) sign) : -1;
            if (name >= 0) {
                at++;
                draft.append(Law.NAME, name);
                return true;
            }
            if (open >= MOST_OPEN || sign != '!' && sign != '(') {
                return false;
            }
            at++;
            return sign == '!' ? readsDenied(open + 1) : readsClosed(open + 1);
        }

        private boolean readsDenied(int open) {
            if (!readsOperand(open)) {
                return false;
            }
            draft.append('!', 0);
            return true;
        }

        private boolean readsClosed(int open) {
            if (!readsChain(0, open) || at >= length || tape[at] != ')') {
                return false;
            }
            at++;
            return true;
        }

        private void readNumber() {
            int number = 0;
            for (int i = 0; i < MOST_DIGITS && at < length && isIn(tape[at], '0', '9'); i++) {
                number = 10 * number + (tape[at] - '0');
                at++;
            }
            draft.append(Law.NUMBER, number);
        }

        private static int levelOf(int sign) {
            switch (sign) {
                case '|': return 0;
                case '&': return 1;
                case '<': case '=': case '>': return COMPARING;
                case '+': case '-': return 3;
                case '*': case '/': case '%': return 4;
                default: return -1;
            }
        }
    }

    /** The VOICES of the KINDS and THE TRACE of the latest. */
    private static final class Voices {
        static final int VOICES = 4;
        private static final int SNIFFS = 0;
        private static final int MARKS = 1;
        private static final int SWEARS = 2;
        private static final int PARTS = 3;
        /** The BODIES of each KIND in turn: sniffs, marks, swears, parts; 0 where it has none. */
        private static final int[] BODIES = {
            10, 11, 12, 13,
            20, 0, 0, 21,
            0, 30, 0, 0,
            0, 0, 40, 0,
            50, 0, 51, 0,
            0, 60, 0, 0,
            70, 71, 0, 0,
        };
        private static final int MOST_TRACED = 30;
        /** More than any VOICE needs: it only guards. */
        private static final int MOST_DEEP = 20;

        final int[] trace = new int[MOST_TRACED];
        int traceLength;
        int answer;
        private boolean parted;
        private int k;
        private int m;
        private int kind;

        /** Whether no BODY parts by 0; THE TRACE is that of this VOICE, even if one does. */
        boolean speaks(Person one, int voice, int x) {
            k = one.k;
            m = one.m;
            kind = one.kind;
            traceLength = 0;
            parted = false;
            answer = say(voice, kind, x, 0);
            return !parted;
        }

        /**
         * The VOICE as the KIND from says it, or the next above that has a BODY for it.
         * What is PARTED has no number to go on with, so no BODY begins after that.
         */
        private int say(int voice, int from, int x, int deep) {
            int bearer = bearerOf(voice, from);
            if (parted || bearer < 0 || deep >= MOST_DEEP) {
                return 0;
            }
            int body = BODIES[VOICES * bearer + voice];
            int above = KIND_ABOVE[bearer];
            begin(body);
            switch (body) {
                case 10: return x + k;
                case 11: return say(SNIFFS, kind, x, deep + 1) * 2;
                case 12: return say(MARKS, kind, x, deep + 1) - m;
                case 13: return partedIn(x, m - k);
                case 20: return say(SNIFFS, above, x, deep + 1) - 4;
                case 21: return say(PARTS, above, x, deep + 1) + say(MARKS, kind, 1, deep + 1);
                case 30: return 0 - say(MARKS, above, x, deep + 1);
                case 40: return say(SWEARS, above, x / 2, deep + 1);
                case 50: return say(SNIFFS, above, x, deep + 1) * 3;
                case 51: return say(SWEARS, above, x, deep + 1) ^ k;
                case 60: return say(MARKS, above, x + 1, deep + 1);
                case 70: return 9;
                default: return say(MARKS, above, x, deep + 1) + m;
            }
        }

        private static int bearerOf(int voice, int from) {
            int at = from;
            for (int i = 0; i < KINDS && isIn(at, 0, KINDS - 1); i++) {
                if (BODIES[VOICES * at + voice] != 0) {
                    return at;
                }
                at = KIND_ABOVE[at];
            }
            return -1;
        }

        private void begin(int body) {
            if (traceLength < MOST_TRACED) {
                trace[traceLength] = body;
                traceLength++;
            }
        }

        private int partedIn(int x, int parts) {
            if (parts == 0) {
                parted = true;
                return 0;
            }
            return x / parts;
        }
    }

    /** A SHEET: of 0 bits, if it is missing. */
    private static final class Sheet {
        final int[] numbers = new int[MOST_NUMBERS];
        int bits;
        int size;

        boolean isMissing() {
            return bits == 0;
        }

        void lay(int newBits, int newSize) {
            bits = newBits;
            size = newSize;
            Arrays.fill(numbers, 0);
        }

        boolean holds(int i, int n) {
            return n >= 0 && n <= size && isIn(i, 0, size - n);
        }

        void write(int i, int v) {
            numbers[i] = bits == 8 ? (byte) v : bits == 16 ? (short) v : v;
        }
    }
}
