import java.util.Arrays;

/** Rolls of holes that are played to children on Sundays, by laws told in texts. */
public final class PianolaRolls {
    public static final int NONE = -1;

    private static final int OTHER = -2;

    private static final int ROLLS = 5;
    private static final int PLACES = 16;
    private static final int CHILDREN = 4;
    // The silent key 0 is counted, so that each key is an index.
    private static final int KEYS = 6;
    private static final int TORN = 9;
    private static final int MOST_HEARD = 99;
    private static final int LAST_SUNDAY = 9999;
    private static final int SUNDAYS_AT_ONCE = 60;
    private static final int KEPT = 30;
    private static final int FIRST_X = 269;
    private static final int LAST_SEED = 9999;
    private static final int YEARS_AT_ONCE = 40;
    private static final int PHRASE = 8;
    private static final int SAYINGS = 8;
    private static final int TEACHINGS = 8;
    private static final int FILLABLE = 4;
    private static final int MOST_PLAYINGS = 99;

    private static final int TEXTS = 4;
    private static final int BYTES = 300;
    private static final int CLAUSES = 24;
    private static final int NESTING = 8;
    private static final int LARGEST = 1000000;
    private static final int LARGEST_NUMBER = 9999;

    // A token's kind is its word's number in this row, one of the kinds behind them, or its sign's byte.
    private static final String WORDS =
            "blurs learns wears child play patch forget roll sunday key who heard place wear digits holes if then else end or and not to of by";
    private static final int BLURS = 0;
    private static final int LEARNS = 1;
    private static final int WEARS = 2;
    private static final int CHILD = 3;
    private static final int PLAY = 4;
    private static final int PATCH = 5;
    private static final int FORGET = 6;
    // These two begin clauses and are names, too: clauses are 0 .. 8, names 7 .. 13.
    private static final int ROLL = 7;
    private static final int SUNDAY = 8;
    private static final int KEY = 9;
    private static final int WHO = 10;
    private static final int HEARD = 11;
    private static final int PLACE = 12;
    private static final int WEAR = 13;
    private static final int DIGITS = 14;
    private static final int HOLES = 15;
    private static final int IF = 16;
    private static final int THEN = 17;
    private static final int ELSE = 18;
    private static final int END = 19;
    private static final int OR = 20;
    private static final int AND = 21;
    private static final int NOT = 22;
    private static final int TO = 23;
    private static final int OF = 24;
    private static final int BY = 25;
    private static final int NO_TOKEN = 26;
    private static final int TAPE_END = 27;
    private static final int NUMBER = 28;
    private static final int NEGATE = 29;
    private static final int AT_MOST = 256 + '<';
    private static final int AT_LEAST = 256 + '>';
    // A step of a law is a kind and, above it, a number or the step to go on at.
    private static final int OPERAND = 1024;

    private final Whole now = new Whole();
    private final Whole kept = new Whole();
    private final World elsewhere = new World();
    private final Script[] scripts = new Script[TEXTS];
    private final Tape tape = new Tape();
    private final Reader reader;
    private final Judge judge = new Judge();
    private final Player player = new Player(judge);
    private final Likeness likeness = new Likeness();
    private final School school = new School(judge);
    private boolean anyRead;

    public PianolaRolls() {
        for (int i = 0; i < TEXTS; i++) {
            scripts[i] = new Script();
        }
        reader = new Reader(tape);
    }

    public int roll(int n) {
        return now.world.addRoll(n);
    }

    public boolean hole(int roll, int at, int key) {
        if (!now.world.hasPlace(roll, at) || key < 0 || key >= KEYS) {
            return false;
        }
        now.world.keys[roll * PLACES + at] = key;
        return true;
    }

    public boolean worn(int roll, int at, int wear) {
        if (!now.world.hasPlace(roll, at) || wear < 0 || wear > TORN) {
            return false;
        }
        now.world.moment.wear[roll * PLACES + at] = wear;
        now.history.tellWear(roll * PLACES + at, wear);
        return true;
    }

    public int child() {
        return now.world.addChild();
    }

    public int feed(int a, int b, int c, int d, int e) {
        if (tape.size + 20 > BYTES) {
            return NONE;
        }
        tape.add(a);
        tape.add(b);
        tape.add(c);
        tape.add(d);
        tape.add(e);
        return tape.size;
    }

    public int end(int n) {
        if (n < 0 || n > tape.size) {
            return NONE;
        }
        tape.size = n;
        return n;
    }

    public int text() {
        int number = now.texts;
        if (number < 0 || number >= TEXTS) {
            return NONE;
        }
        tape.cut();
        boolean fine = reader.read(scripts[number]);
        tape.size = 0;
        anyRead = true;
        if (!fine) {
            return NONE;
        }
        now.texts = number + 1;
        return number;
    }

    public int fault(int what) {
        if (!anyRead) {
            return NONE;
        }
        if (what == 0) {
            return reader.fault;
        }
        return what == 1 ? reader.faultAt : NONE;
    }

    public boolean by(int text) {
        if (text != NONE && textOf(text) == null) {
            return false;
        }
        now.ruling = text;
        return true;
    }

    public int play(int roll, int child) {
        if (!now.world.hasRoll(roll) || !now.world.hasChild(child)) {
            return NONE;
        }
        now.keepStep();
        return player.playRoll(now.world, ruling(), roll, child);
    }

    public boolean patch(int roll, int at) {
        if (now.world.wearAt(roll, at) <= 0) {
            return false;
        }
        now.keepStep();
        now.world.mend(roll, at);
        return true;
    }

    public boolean forget(int child, int key) {
        if (now.world.heardBy(child, key) <= 0) {
            return false;
        }
        now.keepStep();
        now.world.unhear(child, key);
        return true;
    }

    public int sunday(int n) {
        if (n < 1 || n > SUNDAYS_AT_ONCE || now.world.moment.sunday + n > LAST_SUNDAY) {
            return NONE;
        }
        int sum = 0;
        for (int i = 0; i < n; i++) {
            now.keepStep();
            sum += player.passSunday(now.world, ruling());
        }
        return sum;
    }

    public int played(int text) {
        Script script = textOf(text);
        if (script == null) {
            return OTHER;
        }
        for (int i = 0; i < script.clauses; i++) {
            int first = script.first(i);
            boolean done = script.kind(i) == SUNDAY ? passSundays(first) == first : carryOut(script, i);
            if (!done) {
                return i;
            }
        }
        return NONE;
    }

    public int years(int seed, int n) {
        if (seed < 0 || seed > LAST_SEED || n < 1 || n > YEARS_AT_ONCE) {
            return NONE;
        }
        now.keepStep();
        now.world.moment.x = seed * 2 + FIRST_X;
        for (int i = 0; i < n; i++) {
            player.passYear(now.world, ruling());
        }
        return now.world.moment.sunday;
    }

    public int undo() {
        return now.history.takeBack(now.world.moment);
    }

    public int of(int child, int what) {
        if (!now.world.hasChild(child)) {
            return NONE;
        }
        switch (what) {
            case 0:
                return school.learntKeys(now.world, ruling(), child);
            case 1:
                return now.world.allHeard(child);
            case 2:
                return now.world.mostHeard(child);
            default:
                return NONE;
        }
    }

    public int heard(int child, int key) {
        return now.world.heardBy(child, key);
    }

    public int ofRoll(int roll, int what) {
        if (!now.world.hasRoll(roll)) {
            return NONE;
        }
        switch (what) {
            case 0:
                return now.world.size(roll);
            case 1:
                return now.world.holes(roll);
            case 2:
                return now.world.tornPlaces(roll);
            case 3:
                return now.world.keysIn(roll);
            case 4:
                return player.playingsToTear(now.world, ruling(), roll);
            default:
                return NONE;
        }
    }

    public int at(int roll, int at, int what) {
        if (!now.world.hasPlace(roll, at)) {
            return NONE;
        }
        switch (what) {
            case 0:
                return now.world.keyAt(roll, at);
            case 1:
                return now.world.wearAt(roll, at);
            case 2:
                return judge.wears(ruling(), now.world, roll, at, now.world.wearAt(roll, at));
            default:
                return NONE;
        }
    }

    public int law(int roll, int at, int child, boolean blurs) {
        if (!now.world.hasPlace(roll, at) || !now.world.hasChild(child)) {
            return NONE;
        }
        if (blurs) {
            return judge.blurs(ruling(), now.world, roll, at, child);
        }
        int key = now.world.keyAt(roll, at);
        return judge.learns(ruling(), now.world, child, key, now.world.timesHeard(child, key));
    }

    public int is(int what) {
        switch (what) {
            case 0:
                return now.world.moment.sunday;
            case 1:
                return now.world.moment.x;
            case 2:
                return now.world.rolls;
            case 3:
                return now.world.children;
            default:
                return OTHER;
        }
    }

    public int book(int i, int what) {
        return i == NONE ? now.world.moment.pages : now.world.moment.written(i, what);
    }

    public int foretold(int n, int child, int key) {
        if (n < 1 || n > SUNDAYS_AT_ONCE || now.world.heardBy(child, key) == NONE) {
            return NONE;
        }
        elsewhere.take(now.world);
        for (int i = 0; i < n && elsewhere.moment.sunday < LAST_SUNDAY; i++) {
            player.passSunday(elsewhere, ruling());
        }
        return elsewhere.heardBy(child, key);
    }

    public int edit(int a, int b) {
        if (!now.world.hasRoll(a) || !now.world.hasRoll(b)) {
            return NONE;
        }
        return likeness.changes(now.world, a, b);
    }

    public int common(int a, int b, int i) {
        if (!now.world.hasRoll(a) || !now.world.hasRoll(b)) {
            return OTHER;
        }
        int many = likeness.findShared(now.world, a, b);
        if (i == NONE) {
            return many;
        }
        return i >= 0 && i < many ? likeness.sharedPlace(i) : OTHER;
    }

    public int phrase(int key) {
        if (key == NONE) {
            now.phraseSize = 0;
            return 0;
        }
        if (key < 0 || key >= KEYS || now.phraseSize >= PHRASE) {
            return OTHER;
        }
        now.phrase[now.phraseSize] = key;
        now.phraseSize++;
        return now.phraseSize;
    }

    public int fits(int roll, int unlike) {
        if (!now.world.hasRoll(roll) || unlike < 0 || unlike > PHRASE) {
            return NONE;
        }
        return likeness.fitting(now, roll, unlike);
    }

    public int nearest(int roll) {
        return now.world.hasRoll(roll) ? likeness.closest(now, roll) : NONE;
    }

    public int motif(int roll, boolean first) {
        if (!now.world.hasRoll(roll)) {
            return OTHER;
        }
        likeness.findMotif(now.world, roll);
        return first ? likeness.rowFirst : likeness.rowSize;
    }

    public int mirror(int roll, boolean first) {
        if (!now.world.hasRoll(roll)) {
            return OTHER;
        }
        likeness.findMirror(now.world, roll);
        return first ? likeness.rowFirst : likeness.rowSize;
    }

    public int clash(int a, int b, int off) {
        if (!now.world.hasRoll(a) || !now.world.hasRoll(b) || off < 0 || off > PLACES) {
            return NONE;
        }
        return likeness.clashes(now.world, a, b, off);
    }

    public int together(int a, int b) {
        if (!now.world.hasRoll(a) || !now.world.hasRoll(b)) {
            return NONE;
        }
        int best = 0;
        int fewest = likeness.clashes(now.world, a, b, 0);
        for (int off = 1; off <= PLACES; off++) {
            int many = likeness.clashes(now.world, a, b, off);
            if (many < fewest) {
                fewest = many;
                best = off;
            }
        }
        return best;
    }

    public int stair(int rolls, int i) {
        if (!canStand(rolls) || i < NONE || i >= Integer.bitCount(rolls)) {
            return OTHER;
        }
        int keys = likeness.buildStair(now.world, rolls);
        return i == NONE ? keys : likeness.stairRoll(i);
    }

    public long fills(int roll) {
        if (!now.world.hasRoll(roll) || Integer.bitCount(now.world.tornPlaces(roll)) > FILLABLE) {
            return NONE;
        }
        return likeness.waysToFill(now, roll);
    }

    public int teaches(int child, int keys, int i) {
        if (!now.world.hasChild(child) || keys < 0 || keys >= 1 << KEYS || (keys & 1) != 0) {
            return OTHER;
        }
        if (i != NONE && !now.world.hasRoll(i)) {
            return OTHER;
        }
        int many = school.teach(now.world, ruling(), child, keys);
        if (many == NONE) {
            return OTHER;
        }
        return i == NONE ? many : school.timesOf(i);
    }

    public long likely(int roll, int child, int key, int n, boolean low) {
        if (!now.world.hasRoll(roll) || now.world.heardBy(child, key) == NONE || n < 0 || n > PLACES) {
            return NONE;
        }
        school.weigh(now.world, ruling(), roll, child, key);
        long upper = school.outcomesFrom(n);
        long lower = school.outcomesFrom(0);
        long divisor = commonDivisor(lower, upper);
        if (divisor <= 0) {
            return NONE;
        }
        return low ? lower / divisor : upper / divisor;
    }

    public int parts(int roll) {
        return now.world.hasRoll(roll) ? likeness.pieces(now.world, roll) : NONE;
    }

    public int alike() {
        int best = NONE;
        int fewest = 2 * PLACES;
        for (int a = 0; a < now.world.rolls; a++) {
            for (int b = a + 1; b < now.world.rolls; b++) {
                int many = likeness.changes(now.world, a, b);
                if (many < fewest) {
                    fewest = many;
                    best = 10 * a + b;
                }
            }
        }
        return best;
    }

    public int said(int child, int key, int learns) {
        if (child == NONE) {
            now.sayings = 0;
            return 0;
        }
        if (now.world.heardBy(child, key) == NONE || learns < 0 || learns > MOST_HEARD || now.sayings >= SAYINGS) {
            return OTHER;
        }
        now.saidChild[now.sayings] = child;
        now.saidKey[now.sayings] = key;
        now.saidLearns[now.sayings] = learns;
        now.sayings++;
        return now.sayings;
    }

    public int whose() {
        int bits = 0;
        for (int text = 0; text < now.texts; text++) {
            Script script = textOf(text);
            if (script != null && agrees(script)) {
                bits |= 1 << text;
            }
        }
        return bits;
    }

    public int best() {
        int best = NONE;
        int most = 0;
        for (int child = 0; child < now.world.children; child++) {
            int many = Integer.bitCount(school.learntKeys(now.world, ruling(), child));
            if (many > most) {
                most = many;
                best = child;
            }
        }
        return best;
    }

    public int loved() {
        int best = NONE;
        int most = 0;
        for (int roll = 0; roll < now.world.rolls; roll++) {
            int wear = now.world.allWear(roll);
            if (wear > most) {
                most = wear;
                best = roll;
            }
        }
        return best;
    }

    public int dumb() {
        int bits = 0;
        for (int roll = 0; roll < now.world.rolls; roll++) {
            if (now.world.isDumb(roll)) {
                bits |= 1 << roll;
            }
        }
        return bits;
    }

    public int ledger(int roll) {
        if (roll == NONE) {
            return now.world.moment.pages;
        }
        return now.world.hasRoll(roll) ? now.world.moment.pagesOf(roll) : OTHER;
    }

    public int image() {
        kept.take(now);
        return now.world.moment.sunday;
    }

    public int back() {
        now.take(kept);
        return now.world.moment.sunday;
    }

    public int about(int what) {
        switch (what) {
            case 0:
                return now.world.rolls;
            case 1:
                return now.world.children;
            case 2:
                return now.texts;
            case 3:
                return now.ruling;
            case 4:
                return now.history.many;
            case 5:
                return now.phraseSize;
            case 6:
                return now.sayings;
            case 7:
                return tape.size;
            default:
                return OTHER;
        }
    }

    /** The text of that number; null if none such is told. */
    private Script textOf(int number) {
        return number >= 0 && number < now.texts && number < TEXTS ? scripts[number] : null;
    }

    /** The text that rules, or null: then the laws are those that hold without one. */
    private Script ruling() {
        return textOf(now.ruling);
    }

    /** A clause that is no law and no Sunday; whether it can be. */
    private boolean carryOut(Script script, int clause) {
        int first = script.first(clause);
        int second = script.second(clause);
        switch (script.kind(clause)) {
            case ROLL:
                return cutRoll(script, first, second);
            case CHILD:
                return child() != NONE;
            case PLAY:
                return play(first, second) != NONE;
            case PATCH:
                return patch(second, first);
            case FORGET:
                return forget(second, first);
            default:
                return true;
        }
    }

    private boolean cutRoll(Script script, int from, int many) {
        int number = roll(many);
        if (number == NONE) {
            return false;
        }
        for (int i = 0; i < many; i++) {
            hole(number, i, script.stepAt(from + i));
        }
        return true;
    }

    /** Lets so many Sundays pass as can: how many these are. */
    private int passSundays(int n) {
        int passed = 0;
        while (passed < n && now.world.moment.sunday < LAST_SUNDAY) {
            now.keepStep();
            player.passSunday(now.world, ruling());
            passed++;
        }
        return passed;
    }

    private boolean canStand(int rolls) {
        if (rolls <= 0 || rolls >= 1 << now.world.rolls) {
            return false;
        }
        for (int roll = 0; roll < now.world.rolls; roll++) {
            if ((rolls >> roll & 1) != 0 && now.world.tornPlaces(roll) != 0) {
                return false;
            }
        }
        return true;
    }

    private boolean agrees(Script script) {
        for (int i = 0; i < now.sayings && i < SAYINGS; i++) {
            int child = now.saidChild[i];
            int key = now.saidKey[i];
            int learns = judge.learns(script, now.world, child, key, now.world.timesHeard(child, key));
            if (learns != now.saidLearns[i]) {
                return false;
            }
        }
        return true;
    }

    private static long commonDivisor(long a, long b) {
        long greater = a;
        long rest = b;
        // Euclid's steps on numbers up to 10 to the 16th are fewer than 80.
        for (int i = 0; i < 200 && rest > 0; i++) {
            long next = greater % rest;
            greater = rest;
            rest = next;
        }
        return greater;
    }

    /** What a step can change: a copy of it is all that is needed to take the step back. */
    static final class Moment {
        final int[] wear = new int[ROLLS * PLACES];
        final int[] hearings = new int[CHILDREN * KEYS];
        // The four numbers of a page are packed into one, as each step keeps the whole book.
        final int[] book = new int[KEPT];
        int pages;
        int sunday;
        int x = FIRST_X;

        void take(Moment other) {
            System.arraycopy(other.wear, 0, wear, 0, ROLLS * PLACES);
            System.arraycopy(other.hearings, 0, hearings, 0, CHILDREN * KEYS);
            System.arraycopy(other.book, 0, book, 0, KEPT);
            pages = other.pages;
            sunday = other.sunday;
            x = other.x;
        }

        void drawAnew() {
            x = (x * 509 + 397) % 30697;
        }

        /** What is drawn is told by X as it was; then X is anew. */
        int draw(int many) {
            int drawn = many > 0 ? x % many : 0;
            drawAnew();
            return drawn;
        }

        void write(int roll, int child, int many) {
            if (pages >= KEPT) {
                System.arraycopy(book, 1, book, 0, KEPT - 1);
                pages = KEPT - 1;
            }
            book[pages] = ((sunday * ROLLS + roll) * CHILDREN + child) * (PLACES + 1) + many;
            pages++;
        }

        int written(int page, int what) {
            if (page < 0 || page >= pages || page >= KEPT) {
                return OTHER;
            }
            int packed = book[page];
            switch (what) {
                case 0:
                    return packed / (PLACES + 1) / CHILDREN / ROLLS;
                case 1:
                    return packed / (PLACES + 1) / CHILDREN % ROLLS;
                case 2:
                    return packed / (PLACES + 1) % CHILDREN;
                case 3:
                    return packed % (PLACES + 1);
                default:
                    return OTHER;
            }
        }

        int pagesOf(int roll) {
            int many = 0;
            for (int page = 0; page < pages; page++) {
                if (written(page, 1) == roll) {
                    many++;
                }
            }
            return many;
        }
    }

    /** The rolls and the children, as they are at a moment. */
    static final class World {
        final int[] sizes = new int[ROLLS];
        final int[] keys = new int[ROLLS * PLACES];
        final Moment moment = new Moment();
        int rolls;
        int children;

        void take(World other) {
            System.arraycopy(other.sizes, 0, sizes, 0, ROLLS);
            System.arraycopy(other.keys, 0, keys, 0, ROLLS * PLACES);
            moment.take(other.moment);
            rolls = other.rolls;
            children = other.children;
        }

        int addRoll(int n) {
            if (n < 1 || n > PLACES || rolls < 0 || rolls >= ROLLS) {
                return NONE;
            }
            // Its keys and wear are 0: nothing is told of a roll ahead of the roll.
            sizes[rolls] = n;
            rolls++;
            return rolls - 1;
        }

        int addChild() {
            if (children < 0 || children >= CHILDREN) {
                return NONE;
            }
            children++;
            return children - 1;
        }

        boolean hasRoll(int roll) {
            return roll >= 0 && roll < rolls && roll < ROLLS;
        }

        boolean hasPlace(int roll, int at) {
            return roll >= 0 && roll < rolls && roll < ROLLS && at >= 0 && at < sizes[roll] && at < PLACES;
        }

        boolean hasChild(int child) {
            return child >= 0 && child < children && child < CHILDREN;
        }

        int size(int roll) {
            return hasRoll(roll) ? sizes[roll] : 0;
        }

        int keyAt(int roll, int at) {
            return hasPlace(roll, at) ? keys[roll * PLACES + at] : 0;
        }

        int wearAt(int roll, int at) {
            return hasPlace(roll, at) ? moment.wear[roll * PLACES + at] : 0;
        }

        boolean isTorn(int roll, int at) {
            return hasPlace(roll, at) && moment.wear[roll * PLACES + at] >= TORN;
        }

        /** Is there a hole that isn't torn? */
        boolean sounds(int roll, int at) {
            return hasPlace(roll, at) && keys[roll * PLACES + at] != 0 && moment.wear[roll * PLACES + at] < TORN;
        }

        void wearMore(int roll, int at, int more) {
            if (hasPlace(roll, at)) {
                moment.wear[roll * PLACES + at] = Math.min(TORN, moment.wear[roll * PLACES + at] + more);
            }
        }

        void mend(int roll, int at) {
            if (hasPlace(roll, at)) {
                moment.wear[roll * PLACES + at] = 0;
            }
        }

        /** How often a child heard a key 1 .. 5; NONE for others. */
        int heardBy(int child, int key) {
            return hasChild(child) && key >= 1 && key < KEYS ? moment.hearings[child * KEYS + key] : NONE;
        }

        /** The same, but that the silent key is one that was never heard. */
        int timesHeard(int child, int key) {
            return hasChild(child) && key >= 0 && key < KEYS ? moment.hearings[child * KEYS + key] : 0;
        }

        void hear(int child, int key) {
            if (hasChild(child) && key >= 1 && key < KEYS) {
                moment.hearings[child * KEYS + key] = Math.min(MOST_HEARD, moment.hearings[child * KEYS + key] + 1);
            }
        }

        void unhear(int child, int key) {
            if (hasChild(child) && key >= 1 && key < KEYS) {
                moment.hearings[child * KEYS + key] = 0;
            }
        }

        int allHeard(int child) {
            int sum = 0;
            for (int key = 1; key < KEYS; key++) {
                sum += timesHeard(child, key);
            }
            return sum;
        }

        int mostHeard(int child) {
            int best = NONE;
            int most = 0;
            for (int key = 1; key < KEYS; key++) {
                int many = timesHeard(child, key);
                if (many > most) {
                    most = many;
                    best = key;
                }
            }
            return best;
        }

        int holes(int roll) {
            int size = roll >= 0 && roll < rolls && roll < ROLLS ? sizes[roll] : 0;
            int many = 0;
            for (int at = 0; at < size && at < PLACES; at++) {
                if (keys[roll * PLACES + at] != 0) {
                    many++;
                }
            }
            return many;
        }

        int tornPlaces(int roll) {
            int bits = 0;
            for (int at = 0; at < size(roll); at++) {
                if (isTorn(roll, at)) {
                    bits |= 1 << at;
                }
            }
            return bits;
        }

        int keysIn(int roll) {
            int bits = 0;
            for (int at = 0; at < size(roll); at++) {
                if (keyAt(roll, at) != 0) {
                    bits |= 1 << keyAt(roll, at);
                }
            }
            return bits;
        }

        int allWear(int roll) {
            int sum = 0;
            for (int at = 0; at < size(roll); at++) {
                sum += wearAt(roll, at);
            }
            return sum;
        }

        boolean isDumb(int roll) {
            for (int at = 0; at < size(roll); at++) {
                if (sounds(roll, at)) {
                    return false;
                }
            }
            return true;
        }

        /** How often a key would be heard if none of a roll's sounding holes were blurred. */
        int soundings(int roll, int key) {
            int many = 0;
            for (int at = 0; at < size(roll); at++) {
                if (sounds(roll, at) && keyAt(roll, at) == key) {
                    many++;
                }
            }
            return many;
        }
    }

    /** The moments ahead of the latest steps; the eldest gives way to a new one. */
    static final class History {
        final Moment[] moments = new Moment[KEPT];
        int eldest;
        int many;

        History() {
            for (int i = 0; i < KEPT; i++) {
                moments[i] = new Moment();
            }
        }

        void take(History other) {
            eldest = other.eldest;
            many = other.many;
            for (int i = 0; i < many; i++) {
                moments[slot(i)].take(other.moments[slot(i)]);
            }
        }

        void keep(Moment moment) {
            if (many >= KEPT) {
                eldest = slot(1);
                many = KEPT - 1;
            }
            moments[slot(many)].take(moment);
            many++;
        }

        int takeBack(Moment into) {
            if (many <= 0) {
                return NONE;
            }
            many--;
            into.take(moments[slot(many)]);
            return many;
        }

        /** Told wear outlives every step that is taken back, so it is told to each of them. */
        void tellWear(int place, int wear) {
            if (place >= 0 && place < ROLLS * PLACES) {
                for (int i = 0; i < KEPT; i++) {
                    moments[i].wear[place] = wear;
                }
            }
        }

        private int slot(int i) {
            return Math.floorMod(eldest + i, KEPT);
        }
    }

    /** All that an image holds. Read texts are never changed, so that their number is enough. */
    static final class Whole {
        final World world = new World();
        final History history = new History();
        final int[] phrase = new int[PHRASE];
        final int[] saidChild = new int[SAYINGS];
        final int[] saidKey = new int[SAYINGS];
        final int[] saidLearns = new int[SAYINGS];
        int phraseSize;
        int sayings;
        int texts;
        int ruling = NONE;

        void take(Whole other) {
            world.take(other.world);
            history.take(other.history);
            System.arraycopy(other.phrase, 0, phrase, 0, PHRASE);
            System.arraycopy(other.saidChild, 0, saidChild, 0, SAYINGS);
            System.arraycopy(other.saidKey, 0, saidKey, 0, SAYINGS);
            System.arraycopy(other.saidLearns, 0, saidLearns, 0, SAYINGS);
            phraseSize = other.phraseSize;
            sayings = other.sayings;
            texts = other.texts;
            ruling = other.ruling;
        }

        void keepStep() {
            history.keep(world.moment);
        }
    }

    /** A text that was read: its clauses, and its laws as steps for a stack. */
    static final class Script {
        final int[] steps = new int[BYTES];
        final int[] kinds = new int[CLAUSES];
        final int[] firsts = new int[CLAUSES];
        final int[] seconds = new int[CLAUSES];
        final int[] lawClause = new int[WEARS + 1];
        int size;
        int clauses;

        void clear() {
            size = 0;
            clauses = 0;
            Arrays.fill(lawClause, NONE);
        }

        /** Each token brings one step at most, so that there is room for all of a tape. */
        int add(int step) {
            if (size < 0 || size >= BYTES) {
                return NONE;
            }
            steps[size] = step;
            size++;
            return size - 1;
        }

        /** Lets a step go on where the next one will be. */
        void aim(int step) {
            if (step >= 0 && step < size && step < BYTES) {
                steps[step] = steps[step] % OPERAND + size * OPERAND;
            }
        }

        void addClause(int kind, int first, int second) {
            if (clauses < 0 || clauses >= CLAUSES) {
                return;
            }
            kinds[clauses] = kind;
            firsts[clauses] = first;
            seconds[clauses] = second;
            if (kind >= BLURS && kind <= WEARS) {
                lawClause[kind] = clauses;
            }
            clauses++;
        }

        int stepAt(int i) {
            return i >= 0 && i < size && i < BYTES ? steps[i] : 0;
        }

        int kind(int clause) {
            return clause >= 0 && clause < clauses && clause < CLAUSES ? kinds[clause] : NONE;
        }

        int first(int clause) {
            return clause >= 0 && clause < clauses && clause < CLAUSES ? firsts[clause] : 0;
        }

        int second(int clause) {
            return clause >= 0 && clause < clauses && clause < CLAUSES ? seconds[clause] : 0;
        }

        boolean hasLaw(int law) {
            return lawAt(law) != NONE;
        }

        int lawAt(int law) {
            return law >= BLURS && law <= WEARS ? lawClause[law] : NONE;
        }
    }

    /** The tape, and the tokens that it is cut into; the last of these is its end. */
    static final class Tape {
        final int[] bytes = new int[BYTES];
        final int[] kinds = new int[BYTES + 1];
        final int[] starts = new int[BYTES + 1];
        final int[] numbers = new int[BYTES + 1];
        int size;
        int tokens;

        void add(int four) {
            for (int shift = 24; shift >= 0; shift -= 8) {
                if (size >= 0 && size < BYTES) {
                    bytes[size] = four >> shift & 255;
                    size++;
                }
            }
        }

        void cut() {
            tokens = 0;
            int next = 0;
            for (int at = 0; at < size && at < BYTES; at = Math.max(at + 1, next)) {
                int sign = bytes[at];
                if (isLetter(sign)) {
                    next = wordEnd(at);
                    addToken(wordNumber(at, next), at, 0);
                } else if (isDigit(sign)) {
                    next = numberEnd(at);
                    addToken(NUMBER, at, numberOf(at, next));
                } else if ((sign == '<' || sign == '>') && byteAt(at + 1) == '=') {
                    next = at + 2;
                    addToken(sign == '<' ? AT_MOST : AT_LEAST, at, 0);
                } else if (sign != 32 && sign != 10) {
                    addToken(isSign(sign) ? sign : NO_TOKEN, at, 0);
                }
            }
            addToken(TAPE_END, size, 0);
        }

        private void addToken(int kind, int start, int number) {
            if (tokens >= 0 && tokens <= BYTES) {
                kinds[tokens] = kind;
                starts[tokens] = start;
                numbers[tokens] = number;
                tokens++;
            }
        }

        private int wordEnd(int from) {
            int end = from;
            while (end < size && isLetter(byteAt(end))) {
                end++;
            }
            return end;
        }

        private int numberEnd(int from) {
            int end = from;
            while (end < size && isDigit(byteAt(end))) {
                end++;
            }
            return end;
        }

        private int numberOf(int from, int to) {
            int number = 0;
            for (int i = from; i < to; i++) {
                // Beyond the largest number that can stand it doesn't matter by how much.
                number = Math.min(LARGEST_NUMBER + 1, number * 10 + byteAt(i) - '0');
            }
            return number;
        }

        private int wordNumber(int from, int to) {
            int word = 0;
            int letter = from;
            boolean same = true;
            for (int i = 0; i <= WORDS.length(); i++) {
                char sign = i < WORDS.length() ? WORDS.charAt(i) : ' ';
                if (sign == ' ') {
                    if (same && letter == to) {
                        return word;
                    }
                    word++;
                    letter = from;
                    same = true;
                } else {
                    same = same && letter < to && byteAt(letter) == sign;
                    letter++;
                }
            }
            return NO_TOKEN;
        }

        private int byteAt(int i) {
            return i >= 0 && i < size && i < BYTES ? bytes[i] : 0;
        }

        private static boolean isLetter(int sign) {
            return sign >= 'a' && sign <= 'z' || sign >= 'A' && sign <= 'Z';
        }

        private static boolean isDigit(int sign) {
            return sign >= '0' && sign <= '9';
        }

        private static boolean isSign(int sign) {
            switch (sign) {
                case '<':
                case '>':
                case '=':
                case '#':
                case '+':
                case '-':
                case '*':
                case '/':
                case '(':
                case ')':
                case ',':
                case ';':
                    return true;
                default:
                    return false;
            }
        }
    }

    /** Reads a tape's tokens into a script. Each part answers whether it can stand; if not, the fault is set. */
    static final class Reader {
        private final Tape tape;
        private Script script = new Script();
        private int token;
        private int kind;
        private int number;
        private int law;
        int fault;
        int faultAt = NONE;

        Reader(Tape tape) {
            this.tape = tape;
        }

        boolean read(Script into) {
            script = into;
            script.clear();
            fault = 0;
            faultAt = NONE;
            comeTo(0);
            // The clause beyond the last one is tried, too: that it can't stand is its fault.
            for (int i = 0; i <= CLAUSES && kind != TAPE_END; i++) {
                if (!readClause() || !expect(';')) {
                    return false;
                }
            }
            return true;
        }

        private void comeTo(int next) {
            token = next;
            boolean isThere = next >= 0 && next < tape.tokens && next <= BYTES;
            kind = isThere ? tape.kinds[next] : TAPE_END;
            number = isThere ? tape.numbers[next] : 0;
        }

        private boolean refuse(int what) {
            fault = what;
            faultAt = token >= 0 && token < tape.tokens && token <= BYTES ? tape.starts[token] : tape.size;
            return false;
        }

        private boolean expect(int what) {
            if (kind != what) {
                return refuse(1);
            }
            comeTo(token + 1);
            return true;
        }

        private boolean readClause() {
            int begins = kind;
            if (!canBegin(begins)) {
                return false;
            }
            comeTo(token + 1);
            switch (begins) {
                case CHILD:
                    script.addClause(CHILD, 0, 0);
                    return true;
                case ROLL:
                    return readKeys();
                case PLAY:
                    return readPair(PLAY, 0, ROLLS - 1, TO, CHILDREN - 1);
                case PATCH:
                    return readPair(PATCH, 0, PLACES - 1, OF, ROLLS - 1);
                case FORGET:
                    return readPair(FORGET, 1, KEYS - 1, BY, CHILDREN - 1);
                case SUNDAY:
                    return readSundays();
                default:
                    return readLaw(begins);
            }
        }

        private boolean canBegin(int begins) {
            if (begins < BLURS || begins > SUNDAY) {
                return refuse(1);
            }
            if (script.hasLaw(begins)) {
                return refuse(4);
            }
            return script.clauses < CLAUSES || refuse(6);
        }

        private boolean isNumber(int low, int high) {
            if (kind != NUMBER) {
                return refuse(1);
            }
            return number >= low && number <= high || refuse(2);
        }

        private boolean readPair(int begins, int low, int high, int word, int secondHigh) {
            if (!isNumber(low, high)) {
                return false;
            }
            int first = number;
            comeTo(token + 1);
            if (!expect(word) || !isNumber(0, secondHigh)) {
                return false;
            }
            script.addClause(begins, first, number);
            comeTo(token + 1);
            return true;
        }

        private boolean readSundays() {
            if (!isNumber(1, SUNDAYS_AT_ONCE)) {
                return false;
            }
            script.addClause(SUNDAY, number, 0);
            comeTo(token + 1);
            return true;
        }

        private boolean readKeys() {
            int from = script.size;
            boolean more = true;
            for (int i = 0; i <= PLACES && more; i++) {
                if (!isNumber(0, KEYS - 1)) {
                    return false;
                }
                if (i == PLACES) {
                    return refuse(7);
                }
                script.add(number);
                comeTo(token + 1);
                more = kind == ',';
                if (more) {
                    comeTo(token + 1);
                }
            }
            script.addClause(ROLL, from, script.size - from);
            return true;
        }

        private boolean readLaw(int begins) {
            law = begins;
            int from = script.size;
            if (!readSum(0)) {
                return false;
            }
            script.addClause(begins, from, script.size);
            return true;
        }

        private boolean readSum(int open) {
            if (!readProduct(open)) {
                return false;
            }
            for (int i = 0; i < BYTES && (kind == '+' || kind == '-'); i++) {
                int sign = kind;
                comeTo(token + 1);
                if (!readProduct(open)) {
                    return false;
                }
                script.add(sign);
            }
            return true;
        }

        private boolean readProduct(int open) {
            if (!readOne(open)) {
                return false;
            }
            for (int i = 0; i < BYTES && (kind == '*' || kind == '/'); i++) {
                int sign = kind;
                comeTo(token + 1);
                if (!readOne(open)) {
                    return false;
                }
                script.add(sign);
            }
            return true;
        }

        private boolean readOne(int open) {
            int begins = kind;
            if (begins >= ROLL && begins <= WEAR) {
                return readName(begins);
            }
            switch (begins) {
                case NUMBER:
                    return readNumber();
                case '(':
                    return enter(open) && readSum(open + 1) && expect(')');
                case IF:
                    return enter(open) && readChoice(open + 1);
                case '-':
                case DIGITS:
                case HOLES:
                    if (!enter(open) || !readOne(open + 1)) {
                        return false;
                    }
                    script.add(begins == '-' ? NEGATE : begins);
                    return true;
                default:
                    return refuse(1);
            }
        }

        private boolean readNumber() {
            if (number > LARGEST_NUMBER) {
                return refuse(2);
            }
            script.add(NUMBER + number * OPERAND);
            comeTo(token + 1);
            return true;
        }

        private boolean enter(int open) {
            if (open >= NESTING) {
                return refuse(3);
            }
            comeTo(token + 1);
            return true;
        }

        private boolean readName(int name) {
            boolean ofChild = name == WHO || name == HEARD;
            boolean ofPlace = name == ROLL || name == PLACE || name == WEAR;
            if (ofChild && law == WEARS || ofPlace && law == LEARNS) {
                return refuse(5);
            }
            script.add(name);
            comeTo(token + 1);
            return true;
        }

        private boolean readChoice(int open) {
            if (!readEither(open) || !expect(THEN)) {
                return false;
            }
            int toElse = script.add(THEN);
            if (!readSum(open) || !expect(ELSE)) {
                return false;
            }
            int toEnd = script.add(ELSE);
            script.aim(toElse);
            if (!readSum(open) || !expect(END)) {
                return false;
            }
            script.aim(toEnd);
            return true;
        }

        private boolean readEither(int open) {
            if (!readBoth(open)) {
                return false;
            }
            for (int i = 0; i < BYTES && kind == OR; i++) {
                comeTo(token + 1);
                if (!readBoth(open)) {
                    return false;
                }
                script.add(OR);
            }
            return true;
        }

        private boolean readBoth(int open) {
            if (!readAsk(open)) {
                return false;
            }
            for (int i = 0; i < BYTES && kind == AND; i++) {
                comeTo(token + 1);
                if (!readAsk(open)) {
                    return false;
                }
                script.add(AND);
            }
            return true;
        }

        private boolean readAsk(int open) {
            if (kind == NOT) {
                if (!enter(open) || !readAsk(open + 1)) {
                    return false;
                }
                script.add(NOT);
                return true;
            }
            if (!readSum(open)) {
                return false;
            }
            int sign = kind;
            if (!compares(sign)) {
                return refuse(1);
            }
            comeTo(token + 1);
            if (!readSum(open)) {
                return false;
            }
            script.add(sign);
            return true;
        }

        private static boolean compares(int sign) {
            return sign == '<' || sign == '>' || sign == '=' || sign == '#' || sign == AT_MOST || sign == AT_LEAST;
        }
    }

    /** What the laws of a text say; those of no text, or that it doesn't tell, are the plain ones. */
    static final class Judge {
        // No law that can be read needs more: 8 things open, 5 values waiting in each at most.
        private final int[] stack = new int[64];
        private final int[] names = new int[WEAR - ROLL + 1];
        private int top;

        int blurs(Script script, World world, int roll, int at, int child) {
            int wear = world.wearAt(roll, at);
            if (script == null || !script.hasLaw(BLURS)) {
                return wear / 2;
            }
            int key = world.keyAt(roll, at);
            nameKey(world, key);
            nameChild(child, world.timesHeard(child, key));
            namePlace(roll, at, wear);
            return within(10, evaluate(script, BLURS, world));
        }

        int learns(Script script, World world, int child, int key, int heard) {
            if (script == null || !script.hasLaw(LEARNS)) {
                return 3;
            }
            nameKey(world, key);
            nameChild(child, heard);
            return within(MOST_HEARD, evaluate(script, LEARNS, world));
        }

        int wears(Script script, World world, int roll, int at, int wear) {
            if (script == null || !script.hasLaw(WEARS)) {
                return 1;
            }
            nameKey(world, world.keyAt(roll, at));
            namePlace(roll, at, wear);
            return within(TORN, evaluate(script, WEARS, world));
        }

        private void nameKey(World world, int key) {
            names[SUNDAY - ROLL] = world.moment.sunday;
            names[KEY - ROLL] = key;
        }

        private void nameChild(int child, int heard) {
            names[WHO - ROLL] = child;
            names[HEARD - ROLL] = heard;
        }

        private void namePlace(int roll, int at, int wear) {
            names[0] = roll;
            names[PLACE - ROLL] = at;
            names[WEAR - ROLL] = wear;
        }

        private static int within(int most, int value) {
            return Math.max(0, Math.min(most, value));
        }

        private int evaluate(Script script, int law, World world) {
            int clause = script.lawAt(law);
            int end = script.second(clause);
            top = 0;
            for (int i = script.first(clause); i < end; i++) {
                int step = script.stepAt(i);
                int kind = step % OPERAND;
                // A step that doesn't go on with the next one only ever goes on further down.
                int further = Math.max(i, step / OPERAND - 1);
                switch (kind) {
                    case NUMBER:
                        push(step / OPERAND);
                        break;
                    case THEN:
                        i = pop() == 0 ? further : i;
                        break;
                    case ELSE:
                        i = further;
                        break;
                    case HOLES:
                        push(world.holes(pop()));
                        break;
                    case DIGITS:
                        push(digitsTogether(pop()));
                        break;
                    case NEGATE:
                        push(-pop());
                        break;
                    case NOT:
                        push(pop() == 0 ? 1 : 0);
                        break;
                    case '+':
                    case '-':
                    case '*':
                    case '/':
                        int right = pop();
                        push(reckon(kind, pop(), right));
                        break;
                    default:
                        if (kind >= ROLL && kind <= WEAR) {
                            push(names[kind - ROLL]);
                        } else {
                            int second = pop();
                            push(holds(kind, pop(), second) ? 1 : 0);
                        }
                }
            }
            return pop();
        }

        private void push(int value) {
            if (top >= 0 && top < stack.length) {
                stack[top] = value;
                top++;
            }
        }

        private int pop() {
            if (top <= 0 || top > stack.length) {
                return 0;
            }
            top--;
            return stack[top];
        }

        /** No other step can go beyond the largest, as these keep their results within. */
        private static int reckon(int kind, int a, int b) {
            long result = (long) a + b;
            if (kind == '-') {
                result = (long) a - b;
            } else if (kind == '*') {
                result = (long) a * b;
            } else if (kind == '/') {
                result = b == 0 ? 0 : a / b;
            }
            return (int) Math.max(-LARGEST, Math.min(LARGEST, result));
        }

        private static int digitsTogether(int value) {
            int sum = 0;
            int rest = Math.abs(value);
            for (int i = 0; i < 10 && rest > 0; i++) {
                sum += rest % 10;
                rest /= 10;
            }
            return sum;
        }

        private static boolean holds(int kind, int a, int b) {
            switch (kind) {
                case AND:
                    return a != 0 && b != 0;
                case OR:
                    return a != 0 || b != 0;
                case '<':
                    return a < b;
                case '>':
                    return a > b;
                case '=':
                    return a == b;
                case '#':
                    return a != b;
                case AT_MOST:
                    return a <= b;
                case AT_LEAST:
                    return a >= b;
                default:
                    return false;
            }
        }
    }

    /** Plays rolls in a world, by a text's laws. */
    static final class Player {
        private final Judge judge;

        Player(Judge judge) {
            this.judge = judge;
        }

        int playRoll(World world, Script law, int roll, int child) {
            int many = 0;
            for (int at = 0; at < world.size(roll); at++) {
                if (world.sounds(roll, at)) {
                    int blurs = judge.blurs(law, world, roll, at, child);
                    if (world.moment.draw(10) >= blurs) {
                        world.hear(child, world.keyAt(roll, at));
                        many++;
                    }
                    world.wearMore(roll, at, judge.wears(law, world, roll, at, world.wearAt(roll, at)));
                }
            }
            world.moment.write(roll, child, many);
            return many;
        }

        int passSunday(World world, Script law) {
            int many = 0;
            if (world.rolls > 0 && world.children > 0) {
                int roll = world.moment.draw(world.rolls);
                int child = world.moment.draw(world.children);
                many = playRoll(world, law, roll, child);
            }
            world.moment.sunday++;
            return many;
        }

        void passYear(World world, Script law) {
            int x = world.moment.x;
            world.moment.drawAnew();
            int roll = world.rolls > 0 ? x % world.rolls : NONE;
            int child = world.children > 0 ? x / 6 % world.children : NONE;
            switch (x % 6) {
                case 0:
                case 1:
                    if (world.hasRoll(roll) && world.hasChild(child)) {
                        playRoll(world, law, roll, child);
                    }
                    break;
                case 2:
                    world.mend(roll, x / 6 % PLACES);
                    break;
                case 3:
                    world.unhear(child, 1 + x % 5);
                    break;
                default:
                    if (world.moment.sunday < LAST_SUNDAY) {
                        passSunday(world, law);
                    }
            }
        }

        int playingsToTear(World world, Script law, int roll) {
            int fewest = MOST_PLAYINGS;
            for (int at = 0; at < world.size(roll); at++) {
                if (world.keyAt(roll, at) != 0) {
                    fewest = Math.min(fewest, playingsToTearPlace(world, law, roll, at));
                }
            }
            return fewest;
        }

        private int playingsToTearPlace(World world, Script law, int roll, int at) {
            int wear = world.wearAt(roll, at);
            int many = 0;
            while (many < MOST_PLAYINGS && wear < TORN) {
                wear += judge.wears(law, world, roll, at, wear);
                many++;
            }
            return many;
        }
    }

    /** What rolls have in common, with one another, with themselves and with the phrase. */
    static final class Likeness {
        // Stands for a torn place in a row of keys.
        private static final int ANY = KEYS;
        private static final int SIDE = PLACES + 1;

        private final int[] one = new int[PLACES];
        private final int[] two = new int[PLACES];
        private final int[] grid = new int[SIDE * SIDE];
        private final int[] shared = new int[PLACES];
        private final int[] row = new int[ROLLS * PLACES];
        private final int[] order = new int[ROLLS];
        private final int[] stairOrder = new int[ROLLS];
        private int stairSize;
        int rowFirst;
        int rowSize;

        /** The keys of a roll, those that are torn being ANY: how many. */
        private static int lay(World world, int roll, int[] row) {
            int size = Math.min(world.size(roll), row.length);
            for (int at = 0; at < size; at++) {
                row[at] = world.isTorn(roll, at) ? ANY : world.keyAt(roll, at);
            }
            return size;
        }

        private static boolean matches(int a, int b) {
            return a == b || a == ANY || b == ANY;
        }

        private static boolean isSame(int a, int b) {
            return a == b && a != ANY;
        }

        private static boolean isSameHole(int a, int b) {
            return isSame(a, b) && a != 0;
        }

        int changes(World world, int a, int b) {
            int rows = lay(world, a, one);
            int columns = lay(world, b, two);
            for (int i = 0; i <= rows; i++) {
                for (int j = 0; j <= columns; j++) {
                    grid[i * SIDE + j] = changesTo(i, j);
                }
            }
            return grid[rows * SIDE + columns];
        }

        /** Changes from the first i keys to the first j, those of fewer keys being known. */
        private int changesTo(int i, int j) {
            if (i == 0 || j == 0) {
                return i + j;
            }
            int other = matches(one[i - 1], two[j - 1]) ? 0 : 1;
            int changed = grid[(i - 1) * SIDE + j - 1] + other;
            int out = grid[(i - 1) * SIDE + j] + 1;
            int in = grid[i * SIDE + j - 1] + 1;
            return Math.min(changed, Math.min(out, in));
        }

        int findShared(World world, int a, int b) {
            int rows = lay(world, a, one);
            int columns = lay(world, b, two);
            for (int i = rows; i >= 0; i--) {
                for (int j = columns; j >= 0; j--) {
                    grid[i * SIDE + j] = i == rows || j == columns ? 0 : sharedFrom(i, j);
                }
            }
            pickShared(rows, columns);
            return grid[0];
        }

        /** How many the keys from i and from j on share, that of later ones being known. */
        private int sharedFrom(int i, int j) {
            int best = Math.max(grid[(i + 1) * SIDE + j], grid[i * SIDE + j + 1]);
            if (isSameHole(one[i], two[j])) {
                best = Math.max(best, grid[(i + 1) * SIDE + j + 1] + 1);
            }
            return best;
        }

        /** A place is taken if, with the first key like it, as many are shared as can be. */
        private void pickShared(int rows, int columns) {
            int many = 0;
            int from = 0;
            for (int i = 0; i < rows && many < grid[0]; i++) {
                int j = firstLike(i, from, columns);
                if (j < columns && grid[(i + 1) * SIDE + j + 1] + 1 == grid[0] - many) {
                    shared[many] = i;
                    many++;
                    from = j + 1;
                }
            }
        }

        private int firstLike(int i, int from, int columns) {
            for (int j = from; j < columns; j++) {
                if (isSameHole(one[i], two[j])) {
                    return j;
                }
            }
            return columns;
        }

        int sharedPlace(int i) {
            return i >= 0 && i < PLACES ? shared[i] : OTHER;
        }

        private int unlikeAt(Whole all, int from) {
            int many = 0;
            for (int i = 0; i < all.phraseSize && i < PHRASE && from + i < PLACES; i++) {
                if (!matches(one[from + i], all.phrase[i])) {
                    many++;
                }
            }
            return many;
        }

        int fitting(Whole all, int roll, int unlike) {
            int size = lay(all.world, roll, one);
            int bits = 0;
            for (int at = 0; at < size && at + all.phraseSize <= size; at++) {
                if (unlikeAt(all, at) <= unlike) {
                    bits |= 1 << at;
                }
            }
            return bits;
        }

        int closest(Whole all, int roll) {
            if (all.phraseSize <= 0) {
                return NONE;
            }
            int size = lay(all.world, roll, one);
            int best = NONE;
            int fewest = PHRASE + 1;
            for (int at = 0; at + all.phraseSize <= size; at++) {
                int many = unlikeAt(all, at);
                if (many < fewest) {
                    fewest = many;
                    best = at;
                }
            }
            return best;
        }

        long waysToFill(Whole all, int roll) {
            int size = lay(all.world, roll, one);
            int torn = all.world.tornPlaces(roll);
            int fillings = 1;
            for (int i = 0; i < Integer.bitCount(torn) && i < FILLABLE; i++) {
                fillings *= KEYS;
            }
            long many = 0;
            for (int filling = 0; filling < fillings; filling++) {
                fill(torn, filling);
                if (hasPhrase(all, size)) {
                    many++;
                }
            }
            return many;
        }

        private void fill(int torn, int filling) {
            int rest = filling;
            for (int at = 0; at < PLACES; at++) {
                if ((torn >> at & 1) != 0) {
                    one[at] = rest % KEYS;
                    rest /= KEYS;
                }
            }
        }

        private boolean hasPhrase(Whole all, int size) {
            for (int at = 0; at + all.phraseSize <= size; at++) {
                int like = 0;
                while (like < all.phraseSize && like < PHRASE && one[at + like] == all.phrase[like]) {
                    like++;
                }
                if (like == all.phraseSize) {
                    return true;
                }
            }
            return false;
        }

        void findMotif(World world, int roll) {
            int size = lay(world, roll, one);
            rowFirst = NONE;
            rowSize = 0;
            for (int at = 0; at < size; at++) {
                for (int again = at + 1; again < size; again++) {
                    int many = sameFrom(at, again, size);
                    if (many > rowSize) {
                        rowSize = many;
                        rowFirst = at;
                    }
                }
            }
        }

        private int sameFrom(int at, int later, int size) {
            int many = 0;
            while (later + many < size && later + many < PLACES && isSame(one[at + many], one[later + many])) {
                many++;
            }
            return many;
        }

        void findMirror(World world, int roll) {
            int size = lay(world, roll, one);
            rowFirst = NONE;
            rowSize = 0;
            for (int at = 0; at < size; at++) {
                for (int last = at; last < size; last++) {
                    if (last - at + 1 > rowSize && isMirrored(at, last)) {
                        rowSize = last - at + 1;
                        rowFirst = at;
                    }
                }
            }
        }

        private boolean isMirrored(int at, int last) {
            for (int i = 0; at + i < last - i; i++) {
                if (!matches(one[at + i], one[last - i])) {
                    return false;
                }
            }
            return true;
        }

        int clashes(World world, int a, int b, int off) {
            int first = lay(world, a, one);
            int second = lay(world, b, two);
            int many = 0;
            for (int at = 0; at < second && at + off < first; at++) {
                if (isSameHole(one[at + off], two[at])) {
                    many++;
                }
            }
            return many;
        }

        int pieces(World world, int roll) {
            int size = Math.min(world.size(roll), PLACES);
            for (int at = 0; at < size; at++) {
                one[at] = world.keyAt(roll, at);
            }
            int many = 0;
            for (int at = 0; at < size; at++) {
                at += longestAhead(at, size);
                many++;
            }
            return many;
        }

        private int longestAhead(int at, int size) {
            int longest = 0;
            for (int ahead = 0; ahead < at; ahead++) {
                longest = Math.max(longest, sameFrom(ahead, at, size));
            }
            return longest;
        }

        int buildStair(World world, int rolls) {
            stairSize = NONE;
            layRest(world, rolls, 0, 0);
            return stairSize;
        }

        int stairRoll(int i) {
            return i >= 0 && i < ROLLS ? stairOrder[i] : OTHER;
        }

        /** Orders come with the lowest first, so that of like ones the first that is found stays. */
        private void layRest(World world, int rest, int laid, int size) {
            if (rest == 0 || laid >= ROLLS) {
                if (stairSize == NONE || size < stairSize) {
                    stairSize = size;
                    System.arraycopy(order, 0, stairOrder, 0, ROLLS);
                }
                return;
            }
            for (int roll = 0; roll < ROLLS; roll++) {
                if ((rest >> roll & 1) != 0) {
                    order[laid] = roll;
                    layRest(world, rest & ~(1 << roll), laid + 1, layOne(world, roll, size));
                }
            }
        }

        /** Lays a roll over the end of the row's first keys, which stay: how many they are then. */
        private int layOne(World world, int roll, int size) {
            int many = lay(world, roll, one);
            for (int at = 0; at + many <= size; at++) {
                if (lies(at, many)) {
                    return size;
                }
            }
            int over = Math.min(many, size);
            while (over > 0 && !lies(size - over, over)) {
                over--;
            }
            int from = size - over;
            for (int at = over; at < many && from + at < ROLLS * PLACES; at++) {
                row[from + at] = one[at];
            }
            return from + many;
        }

        private boolean lies(int from, int many) {
            for (int at = 0; at < many && at < PLACES && from + at < ROLLS * PLACES; at++) {
                if (row[from + at] != one[at]) {
                    return false;
                }
            }
            return true;
        }
    }

    /** What children have learnt, would learn, and are likely to hear. */
    static final class School {
        private static final int UNKNOWN = 0;
        private static final int LEARNT = 1;
        private static final int NOT_LEARNT = 2;

        private final Judge judge;
        private final int[] times = new int[ROLLS];
        private final int[] soundings = new int[ROLLS * KEYS];
        // Whether a key would be learnt by one that heard it so often.
        private final int[] verdicts = new int[KEYS * (MOST_HEARD + 1)];
        private final long[] outcomes = new long[PLACES + 1];

        School(Judge judge) {
            this.judge = judge;
        }

        int learntKeys(World world, Script law, int child) {
            int bits = 0;
            for (int key = 1; key < KEYS; key++) {
                int heard = world.timesHeard(child, key);
                if (heard > 0 && heard >= judge.learns(law, world, child, key, heard)) {
                    bits |= 1 << key;
                }
            }
            return bits;
        }

        /** The fewest playings that teach these keys, or NONE; timesOf then tells those of each roll. */
        int teach(World world, Script law, int child, int keys) {
            Arrays.fill(verdicts, UNKNOWN);
            Arrays.fill(times, 0);
            for (int roll = 0; roll < ROLLS; roll++) {
                for (int key = 0; key < KEYS; key++) {
                    soundings[roll * KEYS + key] = world.soundings(roll, key);
                }
            }
            for (int many = 0; many <= TEACHINGS; many++) {
                if (share(world, law, child, keys, 0, many)) {
                    return many;
                }
            }
            return NONE;
        }

        int timesOf(int roll) {
            return roll >= 0 && roll < ROLLS ? times[roll] : 0;
        }

        /** Shares playings among the rolls from one on, the most to the first of them being tried first. */
        private boolean share(World world, Script law, int child, int keys, int roll, int left) {
            if (roll >= world.rolls || roll >= ROLLS) {
                return left == 0 && teachesAll(world, law, child, keys);
            }
            int fewest = roll + 1 == world.rolls ? left : 0;
            for (int many = left; many >= fewest; many--) {
                times[roll] = many;
                if (share(world, law, child, keys, roll + 1, left - many)) {
                    return true;
                }
            }
            return false;
        }

        private boolean teachesAll(World world, Script law, int child, int keys) {
            for (int key = 1; key < KEYS; key++) {
                if ((keys >> key & 1) == 0) {
                    continue;
                }
                int heard = heardThen(world, child, key);
                int index = key * (MOST_HEARD + 1) + heard;
                if (verdicts[index] == UNKNOWN) {
                    boolean learnt = heard > 0 && heard >= judge.learns(law, world, child, key, heard);
                    verdicts[index] = learnt ? LEARNT : NOT_LEARNT;
                }
                if (verdicts[index] == NOT_LEARNT) {
                    return false;
                }
            }
            return true;
        }

        private int heardThen(World world, int child, int key) {
            int heard = world.timesHeard(child, key);
            for (int roll = 0; roll < ROLLS; roll++) {
                heard += times[roll] * soundings[roll * KEYS + key];
            }
            return Math.max(0, Math.min(MOST_HEARD, heard));
        }

        /** In how many of all draws a key is heard so often, as outcomesFrom then tells. */
        void weigh(World world, Script law, int roll, int child, int key) {
            Arrays.fill(outcomes, 0L);
            outcomes[0] = 1L;
            for (int at = 0; at < world.size(roll); at++) {
                if (world.sounds(roll, at) && world.keyAt(roll, at) == key) {
                    weighPlace(judge.blurs(law, world, roll, at, child));
                }
            }
        }

        private void weighPlace(int blurs) {
            for (int many = PLACES; many > 0; many--) {
                outcomes[many] = outcomes[many] * blurs + outcomes[many - 1] * (10 - blurs);
            }
            outcomes[0] = outcomes[0] * blurs;
        }

        long outcomesFrom(int least) {
            long sum = 0;
            for (int many = Math.max(0, least); many <= PLACES; many++) {
                sum += outcomes[many];
            }
            return sum;
        }
    }
}
