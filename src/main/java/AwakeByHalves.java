import java.util.Arrays;

/** Two halves of a people, awake by turns, who have one town: see shared/DOC.md, whose words stand here in capitals. */
public final class AwakeByHalves {
    public static final int NONE = -1;

    private static final int BAD = -2;
    private static final int OTHER = -3;
    private static final int NOTHING = -4;
    private static final int STUCK = -5;
    private static final int FULL = -6;
    /** Calls that tell GAINS may answer numbers below 0, so their refusals lie far below any GAIN. */
    private static final int BELOW_GAINS = -1000000;
    private static final int REFUSAL_KINDS = 5;
    /** Where a search for the most, or the fewest, begins. */
    private static final int BELOW_ALL = -2000000000;
    private static final int ABOVE_ALL = 2000000000;

    private static final int MARKS = 8;
    private static final int COUNTS = 4;
    private static final int HALVES = 2;
    private static final int WORTHS = MARKS + COUNTS;
    private static final int ALL_MARKS = 255;
    private static final int MOST_COUNT = 23;
    private static final int MOST_ACTS = 10;
    private static final int MOST_NUMBER = 9;
    private static final int MOST_MARK_WORTH = 99;
    private static final int MOST_COUNT_WORTH = 9;
    private static final int SHELVES = 8;
    private static final int MOST_CELLS = 40;
    private static final int MOST_TAPE = 250;
    private static final int MOST_AHEAD = 4;
    private static final int MOST_AHEAD_UP = 3;
    private static final int MOST_RUN = 60;
    private static final int MOST_TRUE_DAYS = 20;
    private static final int MOST_TOLD = 20;

    private static final int MAKE = 1;
    private static final int BREAK = 2;
    private static final int TURN = 3;
    private static final int FILL = 4;
    private static final int DRAIN = 5;

    private static final int RULE = 0;
    private static final int BY_OWN = 1;
    private static final int BY_KIND = 2;
    private static final int BY_TURN = 3;
    private static final int BY_PACT = 4;
    private static final int BY_IDLE = 5;
    private static final int BY_LOW = 6;
    /** For each KIND of RULE the one that it is under. */
    private static final int[] RULE_ABOVE = {NONE, RULE, BY_OWN, RULE, BY_KIND, BY_OWN, RULE};

    private final Town town = new Town();
    private final Town kept = new Town();
    private final Town draft = new Town();
    private boolean isKept = false;
    private final Tape tape = new Tape();
    private final Shelf[] shelves = new Shelf[SHELVES];
    private final Foresight foresight = new Foresight(town);
    private final Rules rules = new Rules(town, foresight);
    private final Trial trial = new Trial(town, rules);
    private final int[] refusals = new int[REFUSAL_KINDS];

    public AwakeByHalves() {
        for (int s = 0; s < SHELVES; s++) {
            shelves[s] = new Shelf();
        }
    }

    // ---- refusals

    private int refuse(int number) {
        refusals[BAD - number]++;
        return number;
    }

    private int refuseGain(int number) {
        return BELOW_GAINS + refuse(number);
    }

    private static boolean isWithin(int v, int least, int most) {
        return least <= v && v <= most;
    }

    private static boolean isShelf(int s) {
        return isWithin(s, 0, SHELVES - 1);
    }

    private static boolean isHalf(int half) {
        return isWithin(half, 0, HALVES - 1);
    }

    private static boolean isAhead(int k) {
        return isWithin(k, 1, MOST_AHEAD);
    }

    private boolean isAct(int act) {
        return isWithin(act, 0, town.acts - 1);
    }

    private boolean isActOrNone(int act) {
        return act == NONE || isAct(act);
    }

    /** 0, or why two SHELVES (that there are) are no two RULES. */
    private int lackOfRules(int s, int t) {
        if (shelves[s].isRow() || shelves[t].isRow()) {
            return OTHER;
        }
        return shelves[s].isRule() && shelves[t].isRule() ? 0 : NOTHING;
    }

    /** 0, or why a SHELF (that there is) has no ROW of n elements. */
    private int lackOfRow(int s, int n) {
        if (shelves[s].isRule()) {
            return OTHER;
        }
        if (!shelves[s].isRow()) {
            return NOTHING;
        }
        return n <= shelves[s].size ? 0 : BAD;
    }

    // ---- shelves

    public int row(int s, int sort, int n) {
        if (!isShelf(s) || !isWithin(sort, 0, Shelf.BOOLEANS) || !isWithin(n, 0, MOST_CELLS)) {
            return refuse(BAD);
        }
        shelves[s].takeRow(sort, n);
        return 1;
    }

    public int set(int s, int i, long v) {
        if (!isShelf(s)) {
            return refuse(BAD);
        }
        int lack = lackOfRow(s, 0);
        if (lack != 0) {
            return refuse(lack);
        }
        if (!shelves[s].hasCell(i)) {
            return refuse(BAD);
        }
        shelves[s].put(i, v);
        return 1;
    }

    public int copy(int p, int q, int i, int j, int n) {
        if (!isShelf(p) || !isShelf(q)) {
            return refuse(BAD);
        }
        Shelf from = shelves[p];
        Shelf to = shelves[q];
        boolean areTwoSorts = from.isRow() && to.isRow() && from.content != to.content;
        if (from.isRule() || to.isRule() || areTwoSorts) {
            return refuse(OTHER);
        }
        if (!from.isRow() || !to.isRow()) {
            return refuse(NOTHING);
        }
        if (!from.hasCells(i, n) || !to.hasCells(j, n)) {
            return refuse(BAD);
        }
        System.arraycopy(from.cells, i, to.cells, j, n);
        return n;
    }

    public long element(int s, int i) {
        if (!isShelf(s) || !shelves[s].isRow() || !shelves[s].hasCell(i)) {
            return 0;
        }
        return shelves[s].cells[i];
    }

    public int holds(int s) {
        return isShelf(s) ? shelves[s].content : NONE;
    }

    public int rule(int s, int kind, int a) {
        if (!isShelf(s) || !isWithin(kind, BY_OWN, BY_LOW) || !isWithin(a, 0, 99)) {
            return refuse(BAD);
        }
        shelves[s].takeRule(kind, a);
        return 1;
    }

    public int says(int s, int kind) {
        if (!isShelf(s) || !isWithin(kind, RULE, BY_LOW)) {
            return refuse(BAD);
        }
        int lack = lackOfRules(s, s);
        if (lack != 0) {
            return refuse(lack);
        }
        Shelf shelf = shelves[s];
        if (!Rules.isUnder(shelf.ruleKind(), kind)) {
            return refuse(OTHER);
        }
        return kind == RULE ? shelf.a : rules.choose(shelf, town.state);
    }

    // ---- the town

    public int act(int kind, int mark, int count, int n, int needs, int bars) {
        boolean isThing = isWithin(kind, 0, DRAIN) && isWithin(mark, 0, MARKS - 1) && isWithin(count, 0, COUNTS - 1);
        boolean areSets = isWithin(needs, 0, ALL_MARKS) && isWithin(bars, 0, ALL_MARKS);
        if (!isThing || !isWithin(n, 1, MOST_NUMBER) || !areSets) {
            return refuse(BAD);
        }
        if (town.isFull()) {
            return refuse(FULL);
        }
        town.isBeforeKnown = false;
        return town.addAct(kind, mark, count, n, needs, bars);
    }

    public int mark(int mark, boolean is) {
        if (!isWithin(mark, 0, MARKS - 1)) {
            return refuse(BAD);
        }
        town.isBeforeKnown = false;
        if (State.isStanding(town.state, mark) == is) {
            return 0;
        }
        town.state = State.turned(town.state, mark);
        return 1;
    }

    public int count(int count, int v) {
        if (!isWithin(count, 0, COUNTS - 1) || !isWithin(v, 0, MOST_COUNT)) {
            return refuse(BAD);
        }
        town.isBeforeKnown = false;
        int was = State.countIn(town.state, count);
        town.state = State.withCount(town.state, count, v);
        return was;
    }

    public int likes(int half, int what, int v) {
        if (!isHalf(half) || !isWithin(what, 0, WORTHS - 1)) {
            return refuse(BAD);
        }
        int most = what < MARKS ? MOST_MARK_WORTH : MOST_COUNT_WORTH;
        if (!isWithin(v, -most, most)) {
            return refuse(BAD);
        }
        town.setWorth(half, what, v);
        return 1;
    }

    public int lock(int half, int act, boolean is) {
        if (!isHalf(half) || !isAct(act)) {
            return refuse(BAD);
        }
        town.isBeforeKnown = false;
        if (town.isLocked(half, act) == is) {
            return 0;
        }
        town.setLocked(half, act, is);
        return 1;
    }

    public int hide(int set) {
        if (!isWithin(set, 0, ALL_MARKS)) {
            return refuse(BAD);
        }
        int was = town.hidden;
        town.hidden = set;
        return was;
    }

    public int feed(int letter) {
        if (!isWithin(letter, 0, 255)) {
            return refuse(BAD);
        }
        if (tape.size >= MOST_TAPE) {
            return refuse(FULL);
        }
        tape.add(letter);
        return tape.size;
    }

    public int wipe() {
        int was = tape.size;
        tape.size = 0;
        return was;
    }

    public int town() {
        draft.become(town);
        int statements = tape.readInto(draft);
        int fault = tape.start;
        tape.size = 0;
        if (statements == NONE) {
            refuse(BAD);
            return -20 - fault;
        }
        town.become(draft);
        town.isBeforeKnown = false;
        return statements;
    }

    public int actOf(int act, int what) {
        if (!isAct(act) || !isWithin(what, 0, 6)) {
            return refuse(BAD);
        }
        switch (what) {
            case 0: return town.kinds[act];
            case 1: return town.marks[act];
            case 2: return town.counts[act];
            case 3: return town.numbers[act];
            case 4: return town.needs[act];
            case 5: return town.bars[act];
            default: return town.locks[act];
        }
    }

    public int worthOf(int half, int what) {
        if (!isHalf(half) || !isWithin(what, 0, WORTHS - 1)) {
            return refuseGain(BAD);
        }
        return town.worths[half * WORTHS + what];
    }

    public int stands(int what) {
        if (!isWithin(what, 0, 6)) {
            return refuse(BAD);
        }
        switch (what) {
            case 0: return State.marksIn(town.state);
            case 1: return town.hidden;
            case 6: return State.awakeIn(town.state);
            default: return State.countIn(town.state, what - 2);
        }
    }

    public int can(int half) {
        if (!isHalf(half)) {
            return refuse(BAD);
        }
        int set = 0;
        for (int act = 0; act < town.acts; act++) {
            if (town.allows(act, half, town.state)) {
                set |= 1 << act;
            }
        }
        return set;
    }

    public int value(int half) {
        if (!isHalf(half)) {
            return refuseGain(BAD);
        }
        return town.valueTo(half, town.state);
    }

    public int gain(int act) {
        if (!isActOrNone(act)) {
            return refuseGain(BAD);
        }
        int half = State.awakeIn(town.state);
        if (!town.allows(act, half, town.state)) {
            return refuseGain(STUCK);
        }
        return town.valueTo(half, town.after(act, town.state));
    }

    // ---- days

    public int does(int act) {
        if (!isActOrNone(act)) {
            return refuse(BAD);
        }
        if (!town.allows(act, State.awakeIn(town.state), town.state)) {
            return refuse(STUCK);
        }
        town.live(act);
        return town.days;
    }

    public int next(int s) {
        if (!isShelf(s)) {
            return refuse(BAD);
        }
        int lack = lackOfRules(s, s);
        if (lack != 0) {
            return refuse(lack);
        }
        return rules.choose(shelves[s], town.state);
    }

    public int run(int s, int t, int n, int what) {
        if (!isShelf(s) || !isShelf(t) || !isWithin(n, 0, MOST_RUN) || !isWithin(what, 0, 4)) {
            return refuseGain(BAD);
        }
        int lack = lackOfRules(s, t);
        if (lack != 0) {
            return refuseGain(lack);
        }
        boolean isFirstAwake = State.awakeIn(town.state) == 0;
        trial.goByRules(shelves[isFirstAwake ? s : t], shelves[isFirstAwake ? t : s], n);
        switch (what) {
            case 2: return State.marksIn(trial.state);
            case 3: return trial.done;
            case 4: return trial.last;
            default: return trial.gains[what];
        }
    }

    public int head(int t, int n) {
        if (!isShelf(t) || !isWithin(n, 1, MOST_RUN)) {
            return refuse(BAD);
        }
        int lack = lackOfRules(t, t);
        if (lack != 0) {
            return refuse(lack);
        }
        int first = NONE;
        int most = BELOW_ALL;
        for (int s = 0; s < SHELVES; s++) {
            if (shelves[s].isRule()) {
                trial.goByRules(shelves[s], shelves[t], n);
                int gains = trial.gains[State.awakeIn(town.state)];
                if (gains > most) {
                    most = gains;
                    first = s;
                }
            }
        }
        return first;
    }

    public int days(int s, int t, int n) {
        if (!isShelf(s) || !isShelf(t) || !isWithin(n, 1, MOST_TRUE_DAYS)) {
            return refuse(BAD);
        }
        int lack = lackOfRules(s, t);
        if (lack != 0) {
            return refuse(lack);
        }
        for (int d = 0; d < n; d++) {
            Shelf mover = State.awakeIn(town.state) == 0 ? shelves[s] : shelves[t];
            town.live(rules.choose(mover, town.state));
        }
        return town.days;
    }

    public int gained(int what) {
        if (!isWithin(what, 0, HALVES)) {
            return refuseGain(BAD);
        }
        return what < HALVES ? town.gains[what] : town.gains[0] + town.gains[1];
    }

    public int judge(int s, int n) {
        if (!isShelf(s) || !isWithin(n, 0, MOST_TOLD)) {
            return refuse(BAD);
        }
        int lack = lackOfRow(s, n);
        if (lack != 0) {
            return refuse(lack);
        }
        return trial.goByRow(shelves[s], n);
    }

    public int told(int s, int n, int what) {
        if (!isShelf(s) || !isWithin(n, 0, MOST_TOLD) || !isWithin(what, 0, 2)) {
            return refuseGain(BAD);
        }
        int lack = lackOfRow(s, n);
        if (lack != 0) {
            return refuseGain(lack);
        }
        if (trial.goByRow(shelves[s], n) != NONE) {
            return refuseGain(STUCK);
        }
        return what < HALVES ? trial.gains[what] : State.marksIn(trial.state);
    }

    // ---- what can be

    public int best(int k, int what) {
        if (!isAhead(k) || !isWithin(what, 0, 2)) {
            return refuseGain(BAD);
        }
        return what < HALVES ? foresight.gainOf(what, town.state, k) : foresight.firstAct(town.state, k);
    }

    public int against(int s, int k) {
        if (!isShelf(s) || !isAhead(k)) {
            return refuseGain(BAD);
        }
        int lack = lackOfRules(s, s);
        if (lack != 0) {
            return refuseGain(lack);
        }
        return Search.mostAgainst(town, rules, shelves[s], town.state, k);
    }

    public int together(int k) {
        if (!isAhead(k)) {
            return refuseGain(BAD);
        }
        return Search.mostOfBoth(town, town.state, k);
    }

    public int harm(int k) {
        if (!isAhead(k)) {
            return refuseGain(BAD);
        }
        int byBest = foresight.gainOf(0, town.state, k) + foresight.gainOf(1, town.state, k);
        return Search.mostOfBoth(town, town.state, k) - byBest;
    }

    public int work(int set, boolean alone) {
        if (!isWithin(set, 0, ALL_MARKS)) {
            return refuse(BAD);
        }
        int idle = alone ? 1 - State.awakeIn(town.state) : NONE;
        for (int k = 0; k <= MOST_AHEAD; k++) {
            if (Search.canStand(town, town.state, set, idle, k)) {
                return k;
            }
        }
        return NONE;
    }

    public int reach(int k) {
        if (!isWithin(k, 0, MOST_AHEAD)) {
            return refuse(BAD);
        }
        return Search.marksWithin(town, town.state, k);
    }

    public int found() {
        if (!town.isBeforeKnown) {
            return refuse(STUCK);
        }
        return town.likelyActs(town.hidden);
    }

    public int say(int w, int what) {
        if (!isWithin(w, 0, MARKS) || !isWithin(what, 0, 1)) {
            return refuse(BAD);
        }
        if (!town.isBeforeKnown) {
            return refuse(STUCK);
        }
        int words = Math.min(w, Integer.bitCount(town.hidden));
        int least = NONE;
        int fewest = ABOVE_ALL;
        for (int set = 0; set <= ALL_MARKS; set++) {
            boolean isTellable = (set & ~town.hidden) == 0 && Integer.bitCount(set) == words;
            int left = isTellable ? Integer.bitCount(town.likelyActs(town.hidden & ~set)) : ABOVE_ALL;
            if (left < fewest) {
                fewest = left;
                least = set;
            }
        }
        return what == 0 ? least : fewest;
    }

    public int locking(int act, int k) {
        if (!isAct(act) || !isAhead(k)) {
            return refuseGain(BAD);
        }
        int awake = State.awakeIn(town.state);
        if (town.isLocked(1 - awake, act)) {
            return refuseGain(STUCK);
        }
        return gainsWithLock(act, k) - foresight.gainOf(awake, town.state, k);
    }

    /** GAINS of the HALF that is awake by BEST of k DAYS, an ACT that isn't LOCKED for the other being so meanwhile. */
    private int gainsWithLock(int act, int k) {
        int awake = State.awakeIn(town.state);
        town.setLocked(1 - awake, act, true);
        int gains = foresight.gainOf(awake, town.state, k);
        town.setLocked(1 - awake, act, false);
        return gains;
    }

    public int which(int k) {
        if (!isAhead(k)) {
            return refuse(BAD);
        }
        int awake = State.awakeIn(town.state);
        int first = NONE;
        int most = foresight.gainOf(awake, town.state, k);
        for (int act = 0; act < town.acts; act++) {
            if (!town.isLocked(1 - awake, act)) {
                int gains = gainsWithLock(act, k);
                if (gains > most) {
                    most = gains;
                    first = act;
                }
            }
        }
        return first;
    }

    public int up(int k) {
        if (!isWithin(k, 1, MOST_AHEAD_UP)) {
            return refuseGain(BAD);
        }
        int awake = State.awakeIn(town.state);
        int without = foresight.gainOf(awake, town.state, k);
        int most = without;
        for (int act = 0; act < town.acts; act++) {
            if (town.allows(act, awake, town.state)) {
                most = Math.max(most, foresight.gainOf(awake, town.after(act, town.state), k));
            }
        }
        return most - without;
    }

    public int pact(int s, int t, int k) {
        if (!isShelf(s) || !isShelf(t) || !isAhead(k)) {
            return refuse(BAD);
        }
        int lack = lackOfRules(s, t);
        if (lack != 0) {
            return refuse(lack);
        }
        int awake = State.awakeIn(town.state);
        Shelf own = shelves[awake == 0 ? s : t];
        Shelf other = shelves[awake == 0 ? t : s];
        trial.goByRules(own, other, k);
        return Search.mostAgainst(town, rules, other, town.state, k) <= trial.gains[awake] ? 1 : 0;
    }

    // ---- the year

    public int leap() {
        int mark = town.drawMark();
        town.isBeforeKnown = false;
        town.state = State.turned(town.state, mark);
        return mark;
    }

    public int seed(int v) {
        int was = town.seed;
        town.seed = v;
        return was;
    }

    public int image() {
        kept.become(town);
        isKept = true;
        return 1;
    }

    public int back() {
        if (!isKept) {
            return refuse(STUCK);
        }
        town.become(kept);
        return 1;
    }

    public int status(int what) {
        if (isWithin(what, 12, 16)) {
            return refusals[what - 12];
        }
        switch (what) {
            case 0: return town.acts;
            case 1: return Integer.bitCount(State.marksIn(town.state));
            case 2: return town.days;
            case 3: return State.allCountsIn(town.state);
            case 4: return town.lockedActs();
            case 5: return tape.size;
            case 6: return town.seed;
            case 7: return filledShelves();
            default: return NONE;
        }
    }

    private int filledShelves() {
        int filled = 0;
        for (int s = 0; s < SHELVES; s++) {
            if (shelves[s].content != NONE) {
                filled++;
            }
        }
        return filled;
    }

    /**
     * MARKS, COUNTS and the HALF that is awake in one int, so that looking ahead makes no objects:
     * MARKS in bits 0 to 7, COUNTS in 5 bits each from bit 8 on, the HALF in bit 28.
     */
    private static final class State {
        private static final int COUNT_BITS = 5;
        private static final int COUNT_MASK = 31;
        private static final int HALF_BIT = MARKS + COUNTS * COUNT_BITS;
        private static final int BITS = HALF_BIT + 1;

        static int marksIn(int state) {
            return state & ALL_MARKS;
        }

        static boolean isStanding(int state, int mark) {
            return ((state >> mark) & 1) != 0;
        }

        static int turned(int state, int mark) {
            return state ^ (1 << mark);
        }

        static int countIn(int state, int count) {
            return (state >> (MARKS + count * COUNT_BITS)) & COUNT_MASK;
        }

        static int withCount(int state, int count, int v) {
            int place = MARKS + count * COUNT_BITS;
            return (state & ~(COUNT_MASK << place)) | (v << place);
        }

        static int allCountsIn(int state) {
            int sum = 0;
            for (int count = 0; count < COUNTS; count++) {
                sum += countIn(state, count);
            }
            return sum;
        }

        static int awakeIn(int state) {
            return (state >> HALF_BIT) & 1;
        }

        static int nextDay(int state) {
            return state ^ (1 << HALF_BIT);
        }
    }

    /** All that image() keeps. */
    private static final class Town {
        final int[] kinds = new int[MOST_ACTS];
        final int[] marks = new int[MOST_ACTS];
        final int[] counts = new int[MOST_ACTS];
        final int[] numbers = new int[MOST_ACTS];
        final int[] needs = new int[MOST_ACTS];
        final int[] bars = new int[MOST_ACTS];
        final int[] locks = new int[MOST_ACTS];
        final int[] worths = new int[HALVES * WORTHS];
        final int[] gains = new int[HALVES];
        int acts = 0;
        int state = 0;
        int hidden = 0;
        int days = 0;
        int seed = 1;
        /** How the town was before the last DAY's ACT: FOUND looks back from there. */
        int before = 0;
        boolean isBeforeKnown = false;
        /** Grows with whatever makes a look ahead out of date: ACTS, LOCKS and WORTHS. */
        int changes = 0;

        void become(Town other) {
            System.arraycopy(other.kinds, 0, kinds, 0, MOST_ACTS);
            System.arraycopy(other.marks, 0, marks, 0, MOST_ACTS);
            System.arraycopy(other.counts, 0, counts, 0, MOST_ACTS);
            System.arraycopy(other.numbers, 0, numbers, 0, MOST_ACTS);
            System.arraycopy(other.needs, 0, needs, 0, MOST_ACTS);
            System.arraycopy(other.bars, 0, bars, 0, MOST_ACTS);
            System.arraycopy(other.locks, 0, locks, 0, MOST_ACTS);
            System.arraycopy(other.worths, 0, worths, 0, HALVES * WORTHS);
            System.arraycopy(other.gains, 0, gains, 0, HALVES);
            acts = other.acts;
            state = other.state;
            hidden = other.hidden;
            days = other.days;
            seed = other.seed;
            before = other.before;
            isBeforeKnown = other.isBeforeKnown;
            changes++;
        }

        boolean isFull() {
            return acts >= MOST_ACTS;
        }

        /** Only for a town that isn't full. */
        int addAct(int kind, int mark, int count, int n, int need, int bar) {
            int act = acts;
            kinds[act] = kind;
            marks[act] = mark;
            counts[act] = count;
            numbers[act] = n;
            needs[act] = need;
            bars[act] = bar;
            locks[act] = 0;
            acts++;
            changes++;
            return act;
        }

        void setWorth(int half, int what, int v) {
            worths[half * WORTHS + what] = v;
            changes++;
        }

        boolean isLocked(int half, int act) {
            return ((locks[act] >> half) & 1) != 0;
        }

        void setLocked(int half, int act, boolean is) {
            int bit = 1 << half;
            locks[act] = is ? locks[act] | bit : locks[act] & ~bit;
            changes++;
        }

        int lockedActs() {
            int locked = 0;
            for (int act = 0; act < acts; act++) {
                if (locks[act] != 0) {
                    locked++;
                }
            }
            return locked;
        }

        /** Whether an ACT CAN be done by a HALF in a state; none always. */
        boolean allows(int act, int half, int from) {
            if (act == NONE) {
                return true;
            }
            if (isLocked(half, act) || (from & needs[act]) != needs[act] || (from & bars[act]) != 0) {
                return false;
            }
            boolean isStanding = State.isStanding(from, marks[act]);
            int have = State.countIn(from, counts[act]);
            switch (kinds[act]) {
                case MAKE: return !isStanding;
                case BREAK: return isStanding;
                case FILL: return !isStanding && have >= numbers[act];
                case DRAIN: return isStanding && have + numbers[act] <= MOST_COUNT;
                default: return true;
            }
        }

        /** The state behind an ACT that CAN be done, or none; the same HALF is awake still. */
        int after(int act, int from) {
            if (act == NONE) {
                return from;
            }
            int count = counts[act];
            int have = State.countIn(from, count);
            switch (kinds[act]) {
                case MAKE:
                case BREAK:
                case TURN:
                    return State.turned(from, marks[act]);
                case FILL:
                    return State.withCount(State.turned(from, marks[act]), count, have - numbers[act]);
                case DRAIN:
                    return State.withCount(State.turned(from, marks[act]), count, have + numbers[act]);
                default:
                    return State.withCount(from, count, Math.min(MOST_COUNT, have + numbers[act]));
            }
        }

        int valueTo(int half, int at) {
            int first = half * WORTHS;
            int sum = 0;
            for (int mark = 0; mark < MARKS; mark++) {
                if (State.isStanding(at, mark)) {
                    sum += worths[first + mark];
                }
            }
            for (int count = 0; count < COUNTS; count++) {
                sum += State.countIn(at, count) * worths[first + MARKS + count];
            }
            return sum;
        }

        /** A DAY in truth, by an ACT that CAN be done, or none. */
        void live(int act) {
            int half = State.awakeIn(state);
            before = state;
            isBeforeKnown = true;
            state = after(act, state);
            gains[half] += valueTo(half, state);
            state = State.nextDay(state);
            days++;
        }

        /** FOUND, if a set of MARKS is HIDDEN. */
        int likelyActs(int unseen) {
            int half = State.awakeIn(before);
            int seen = ~unseen;
            int set = 0;
            for (int act = NONE; act < acts; act++) {
                boolean isAlike = allows(act, half, before)
                    && (State.nextDay(after(act, before)) & seen) == (state & seen);
                if (isAlike) {
                    set |= 1 << (act == NONE ? MOST_ACTS : act);
                }
            }
            return set;
        }

        int drawMark() {
            seed = seed * 1103515245 + 12345;
            return (seed >>> 16) % MARKS;
        }
    }

    /** NOTHING, a ROW, or a RULE; its cells are made once, so that new ROWS take no room. */
    private static final class Shelf {
        private static final int BYTES = 0;
        private static final int SHORTS = 1;
        private static final int INTS = 2;
        private static final int BOOLEANS = 4;
        private static final int RULES_FROM = 10;

        final long[] cells = new long[MOST_CELLS];
        /** As holds() tells it. */
        int content = NONE;
        int size = 0;
        int a = 0;

        boolean isRow() {
            return content >= BYTES && content <= BOOLEANS;
        }

        boolean isRule() {
            return content > RULES_FROM;
        }

        int ruleKind() {
            return content - RULES_FROM;
        }

        void takeRow(int sort, int n) {
            content = sort;
            size = n;
            Arrays.fill(cells, 0L);
        }

        void takeRule(int kind, int by) {
            content = RULES_FROM + kind;
            a = by;
        }

        boolean hasCell(int i) {
            return i >= 0 && i < size;
        }

        boolean hasCells(int i, int n) {
            return i >= 0 && n >= 0 && n <= size - i;
        }

        void put(int i, long v) {
            switch (content) {
                case BYTES: cells[i] = (byte) v; break;
                case SHORTS: cells[i] = (short) v; break;
                case INTS: cells[i] = (int) v; break;
                case BOOLEANS: cells[i] = v != 0 ? 1 : 0; break;
                default: cells[i] = v; break;
            }
        }
    }

    /** THE TAPE, and the reading of a TOWN from it. */
    private static final class Tape {
        private static final int END = 0;
        private static final int WORD = 1;
        private static final int NUMBER = 2;
        private static final int SIGN = 3;
        private static final int STRANGE = 4;
        private static final int BLANK = 32;
        private static final int MOST_DIGITS = 2;

        final int[] letters = new int[MOST_TAPE];
        int size = 0;
        /** The TOKEN that is looked at: where it begins (behind a fault: the FAULT), where it ends, its sort. */
        int start = 0;
        private int end = 0;
        private int sort = END;

        /** Only for a tape that isn't full. */
        void add(int letter) {
            letters[size] = letter;
            size++;
        }

        /** How many STATEMENTS came to a town; NONE: there is a FAULT, at start. */
        int readInto(Town town) {
            end = 0;
            advance();
            for (int statements = 1; statements <= MOST_TAPE; statements++) {
                if (!readStatement(town)) {
                    return NONE;
                }
                if (sort == END) {
                    return statements;
                }
                if (sort != SIGN) {
                    return NONE;
                }
                advance();
            }
            return NONE;
        }

        private void advance() {
            start = end;
            while (start < size && letters[start] == BLANK) {
                start++;
            }
            sort = start < size ? sortOf(letters[start]) : END;
            end = start < size ? start + 1 : size;
            boolean isLong = sort == WORD || sort == NUMBER;
            while (isLong && end < size && sortOf(letters[end]) == sort) {
                end++;
            }
        }

        private static int sortOf(int letter) {
            if (letter >= 'a' && letter <= 'z') {
                return WORD;
            }
            if (letter >= '0' && letter <= '9') {
                return NUMBER;
            }
            return letter == ';' ? SIGN : STRANGE;
        }

        private boolean isWord(String word) {
            if (sort != WORD || end - start != word.length()) {
                return false;
            }
            for (int i = 0; i < word.length(); i++) {
                if (letters[start + i] != word.charAt(i)) {
                    return false;
                }
            }
            return true;
        }

        /** The NUMBER that is looked at, which is passed then; NONE, nothing being passed: it can't stand there. */
        private int takeNumber(int least, int most) {
            if (sort != NUMBER || end - start > MOST_DIGITS) {
                return NONE;
            }
            int v = 0;
            for (int i = start; i < end; i++) {
                v = v * 10 + letters[i] - '0';
            }
            if (v < least || v > most) {
                return NONE;
            }
            advance();
            return v;
        }

        private boolean readStatement(Town town) {
            if (isWord("act")) {
                return readAct(town);
            }
            if (isWord("mark")) {
                return readMark(town);
            }
            if (isWord("count")) {
                return readCount(town);
            }
            if (isWord("likes")) {
                return readMarkWorth(town, 1);
            }
            if (isWord("hates")) {
                return readMarkWorth(town, -1);
            }
            if (isWord("counts")) {
                return readCountWorth(town, 1);
            }
            if (isWord("costs")) {
                return readCountWorth(town, -1);
            }
            if (isWord("hides")) {
                return readHidden(town);
            }
            return isWord("locks") && readLock(town);
        }

        private boolean readAct(Town town) {
            if (town.isFull()) {
                return false;
            }
            advance();
            int kind = takeNumber(0, DRAIN);
            int mark = kind == NONE ? NONE : takeNumber(0, MARKS - 1);
            int count = mark == NONE ? NONE : takeNumber(0, COUNTS - 1);
            int n = count == NONE ? NONE : takeNumber(1, MOST_NUMBER);
            int needs = n == NONE ? NONE : takeMarksBehind("need");
            int bars = needs == NONE ? NONE : takeMarksBehind("bar");
            if (bars == NONE) {
                return false;
            }
            town.addAct(kind, mark, count, n, needs, bars);
            return true;
        }

        /** The set of all MARKS told one by one, each behind the word; NONE: one can't stand there. */
        private int takeMarksBehind(String word) {
            int set = 0;
            for (int i = 0; i < MOST_TAPE && isWord(word); i++) {
                advance();
                int mark = takeNumber(0, MARKS - 1);
                if (mark == NONE) {
                    return NONE;
                }
                set |= 1 << mark;
            }
            return set;
        }

        private boolean readMark(Town town) {
            advance();
            int mark = takeNumber(0, MARKS - 1);
            if (mark == NONE) {
                return false;
            }
            town.state |= 1 << mark;
            return true;
        }

        private boolean readCount(Town town) {
            advance();
            int count = takeNumber(0, COUNTS - 1);
            int v = count == NONE ? NONE : takeNumber(0, MOST_COUNT);
            if (v == NONE) {
                return false;
            }
            town.state = State.withCount(town.state, count, v);
            return true;
        }

        private boolean readMarkWorth(Town town, int sign) {
            advance();
            int half = takeNumber(0, HALVES - 1);
            int mark = half == NONE ? NONE : takeNumber(0, MARKS - 1);
            int v = mark == NONE ? NONE : takeNumber(0, MOST_MARK_WORTH);
            if (v == NONE) {
                return false;
            }
            town.setWorth(half, mark, sign * v);
            return true;
        }

        private boolean readCountWorth(Town town, int sign) {
            advance();
            int half = takeNumber(0, HALVES - 1);
            int count = half == NONE ? NONE : takeNumber(0, COUNTS - 1);
            int v = count == NONE ? NONE : takeNumber(0, MOST_COUNT_WORTH);
            if (v == NONE) {
                return false;
            }
            town.setWorth(half, MARKS + count, sign * v);
            return true;
        }

        private boolean readHidden(Town town) {
            advance();
            int mark = takeNumber(0, MARKS - 1);
            if (mark == NONE) {
                return false;
            }
            town.hidden |= 1 << mark;
            return true;
        }

        private boolean readLock(Town town) {
            advance();
            int half = takeNumber(0, HALVES - 1);
            int act = half == NONE ? NONE : takeNumber(0, town.acts - 1);
            if (act == NONE) {
                return false;
            }
            town.setLocked(half, act, true);
            return true;
        }
    }

    /**
     * BEST, with what was worked out kept by state and DAYS: the same states come again by many ways,
     * and on many DAYS of a RUN. An answer stands in a place; it holds until the next look ahead.
     */
    private static final class Foresight {
        private static final int PLACE_BITS = 9;
        private static final int PLACES = 1 << PLACE_BITS;
        private static final int SPREAD = 0x9E3779B1;

        private final Town town;
        private final int[] keys = new int[PLACES];
        private final int[] firsts = new int[PLACES];
        private final int[] gainsOfNone = new int[PLACES];
        private final int[] gainsOfOne = new int[PLACES];
        private int changesSeen = 0;

        Foresight(Town ahead) {
            town = ahead;
        }

        int firstAct(int state, int k) {
            forgetIfChanged();
            return firsts[placeOf(state, k)];
        }

        int gainOf(int half, int state, int k) {
            forgetIfChanged();
            return gainAt(placeOf(state, k), half);
        }

        private void forgetIfChanged() {
            if (changesSeen != town.changes) {
                Arrays.fill(keys, 0);
                changesSeen = town.changes;
            }
        }

        private int gainAt(int place, int half) {
            return half == 0 ? gainsOfNone[place] : gainsOfOne[place];
        }

        /** Where BEST of k DAYS (1 to 4) stands; a key is never 0, as k is not. */
        private int placeOf(int state, int k) {
            int key = (k << State.BITS) | state;
            int place = (key * SPREAD) >>> (32 - PLACE_BITS);
            if (keys[place] != key) {
                workOut(place, state, k);
                keys[place] = key;
            }
            return place;
        }

        private void workOut(int place, int state, int k) {
            int half = State.awakeIn(state);
            int first = NONE;
            int most = BELOW_ALL;
            int others = 0;
            for (int act = NONE; act < town.acts; act++) {
                if (town.allows(act, half, state)) {
                    int after = town.after(act, state);
                    int own = town.valueTo(half, after);
                    int other = 0;
                    if (k > 1) {
                        int then = placeOf(State.nextDay(after), k - 1);
                        own += gainAt(then, half);
                        other = gainAt(then, 1 - half);
                    }
                    if (own > most) {
                        most = own;
                        others = other;
                        first = act;
                    }
                }
            }
            firsts[place] = first;
            gainsOfNone[place] = half == 0 ? most : others;
            gainsOfOne[place] = half == 0 ? others : most;
        }
    }

    /** What RULES say in a state. */
    private static final class Rules {
        private static final int PACT_BASE = 50;

        private final Town town;
        private final Foresight foresight;

        Rules(Town of, Foresight by) {
            town = of;
            foresight = by;
        }

        /** Whether a KIND is another one, or under it. */
        static boolean isUnder(int kind, int above) {
            int at = kind;
            for (int i = 0; i < RULE_ABOVE.length && at >= 0 && at != above; i++) {
                at = RULE_ABOVE[at];
            }
            return at == above;
        }

        /** The ACT (NONE: none) that the RULE in a shelf says for the HALF that is awake in a state. */
        int choose(Shelf rule, int state) {
            switch (rule.ruleKind()) {
                case BY_OWN: return mostToday(state, false);
                case BY_KIND: return mostToday(state, true);
                case BY_TURN: return foresight.firstAct(state, rule.a % MOST_AHEAD + 1);
                case BY_PACT: return mostToday(state, isContent(state, rule.a));
                case BY_IDLE: return ownUnlessIdle(state, rule.a);
                default: return firstAllowed(state);
            }
        }

        private int mostToday(int state, boolean forBoth) {
            int half = State.awakeIn(state);
            int first = NONE;
            int most = BELOW_ALL;
            for (int act = NONE; act < town.acts; act++) {
                if (town.allows(act, half, state)) {
                    int after = town.after(act, state);
                    int value = town.valueTo(half, after) + (forBoth ? town.valueTo(1 - half, after) : 0);
                    if (value > most) {
                        most = value;
                        first = act;
                    }
                }
            }
            return first;
        }

        private boolean isContent(int state, int a) {
            return town.valueTo(State.awakeIn(state), state) >= a - PACT_BASE;
        }

        private int ownUnlessIdle(int state, int a) {
            int half = State.awakeIn(state);
            int act = mostToday(state, false);
            int more = town.valueTo(half, town.after(act, state)) - town.valueTo(half, state);
            return more <= a ? NONE : act;
        }

        private int firstAllowed(int state) {
            for (int act = 0; act < town.acts; act++) {
                if (town.allows(act, State.awakeIn(state), state)) {
                    return act;
                }
            }
            return NONE;
        }
    }

    /** DAYS gone through without the town being changed. */
    private static final class Trial {
        private final Town town;
        private final Rules rules;
        final int[] gains = new int[HALVES];
        int state = 0;
        /** DAYS on which something was done. */
        int done = 0;
        /** What was chosen on the last DAY, none too. */
        int last = NONE;

        Trial(Town of, Rules by) {
            town = of;
            rules = by;
        }

        /** By the RULE of the HALF that is awake now, and that of the other. */
        void goByRules(Shelf own, Shelf other, int n) {
            begin();
            int awake = State.awakeIn(state);
            for (int d = 0; d < n; d++) {
                go(rules.choose(State.awakeIn(state) == awake ? own : other, state));
            }
        }

        /** Where a told ROW of n elements at least is WRONG; NONE. */
        int goByRow(Shelf row, int n) {
            begin();
            for (int d = 0; d < n; d++) {
                long told = row.cells[d];
                // compared before it is cut to an int: a long may look like an ACT in its lowest bits alone
                int act = told >= 0 && told < town.acts ? (int) told : NONE;
                if (!town.allows(act, State.awakeIn(state), state)) {
                    return d;
                }
                go(act);
            }
            return NONE;
        }

        private void begin() {
            state = town.state;
            Arrays.fill(gains, 0);
            done = 0;
            last = NONE;
        }

        private void go(int act) {
            int half = State.awakeIn(state);
            state = town.after(act, state);
            gains[half] += town.valueTo(half, state);
            state = State.nextDay(state);
            last = act;
            if (act != NONE) {
                done++;
            }
        }
    }

    /** What can be at all, or be got, by all rows of choices for up to 4 DAYS. */
    private static final class Search {
        /** AGAINST. The other's DAY, if it is the last of all, brings this HALF nothing and isn't looked at. */
        private static int mostAgainst(Town town, Rules rules, Shelf rule, int state, int k) {
            int half = State.awakeIn(state);
            int most = BELOW_ALL;
            for (int act = NONE; act < town.acts; act++) {
                if (town.allows(act, half, state)) {
                    int after = town.after(act, state);
                    int gains = town.valueTo(half, after);
                    if (k > 2) {
                        int others = State.nextDay(after);
                        int then = State.nextDay(town.after(rules.choose(rule, others), others));
                        gains += mostAgainst(town, rules, rule, then, k - 2);
                    }
                    most = Math.max(most, gains);
                }
            }
            return most;
        }

        /** TOGETHER. */
        private static int mostOfBoth(Town town, int state, int k) {
            int half = State.awakeIn(state);
            int most = BELOW_ALL;
            for (int act = NONE; act < town.acts; act++) {
                if (town.allows(act, half, state)) {
                    int after = town.after(act, state);
                    int then = k > 1 ? mostOfBoth(town, State.nextDay(after), k - 1) : 0;
                    most = Math.max(most, town.valueTo(half, after) + then);
                }
            }
            return most;
        }

        /** Whether all of a set of MARKS can stand behind k DAYS, a HALF that is idle (NONE: neither) doing nothing. */
        private static boolean canStand(Town town, int state, int set, int idle, int k) {
            if (k <= 0) {
                return (state & set) == set;
            }
            int half = State.awakeIn(state);
            int acts = half == idle ? 0 : town.acts;
            for (int act = NONE; act < acts; act++) {
                if (town.allows(act, half, state)
                        && canStand(town, State.nextDay(town.after(act, state)), set, idle, k - 1)) {
                    return true;
                }
            }
            return false;
        }

        /** Doing nothing is a choice too, so what stands sooner is among what stands behind all k DAYS. */
        private static int marksWithin(Town town, int state, int k) {
            if (k <= 0) {
                return State.marksIn(state);
            }
            int half = State.awakeIn(state);
            int set = 0;
            for (int act = NONE; act < town.acts; act++) {
                if (town.allows(act, half, state)) {
                    set |= marksWithin(town, State.nextDay(town.after(act, state)), k - 1);
                }
            }
            return set;
        }
    }
}
