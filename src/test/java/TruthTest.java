import java.util.Random;

/**
 * What a call says of days that are not yet is held against the days themselves, gone through in truth by other calls of
 * the same object: no second reading of the document stands between. Each part takes a new object, for its 512 calls.
 */
public final class TruthTest {
    private static final int NONE = AwakeByHalves.NONE;
    private static final int RULES = 6;
    private static final int ROW = 6;

    private final int seed;
    private final Random random;
    private AwakeByHalves x;
    private int acts;

    private TruthTest(int seed) {
        this.seed = seed;
        random = new Random(seed);
    }

    public static void main(String[] args) {
        for (int seed = 0; seed < 400; seed++) {
            new TruthTest(seed).go();
        }
        Check.end("TruthTest");
    }

    private void go() {
        Check.about("seed " + seed);
        again();
        gainsComeAbout();
        again();
        runsComeAbout();
        again();
        bestComesAbout();
        again();
        headIsTheMostOfRuns();
        again();
        togetherIsTheMostOfToldRows();
        again();
        againstIsTheMostOfTrueDays();
        again();
        worksAreDone();
        again();
        foundIsWhatLooksAlike();
        again();
        locksAreWorthWhatTheyBring();
        again();
        stayingUpIsADayTheOtherSleeps();
    }

    /** The same town on a new object: acts, worths, a rule of each kind in shelves 0 to 5, a row in 6, some days gone. */
    private void again() {
        random.setSeed(seed);
        x = new AwakeByHalves();
        acts = between(1, 5);
        for (int a = 0; a < acts; a++) {
            x.act(between(0, 5), between(0, 3), between(0, 1), between(1, 4), oneIn(3), oneIn(3));
        }
        for (int half = 0; half < 2; half++) {
            for (int what = 0; what < 10; what++) {
                if (what < 4 || what > 7) {
                    x.likes(half, what, what < 8 ? between(-12, 12) : between(-3, 3));
                }
            }
        }
        x.count(0, between(0, 23));
        x.count(1, between(0, 23));
        x.mark(between(0, 3), true);
        x.hide(between(0, 15));
        x.lock(between(0, 1), between(0, acts - 1), true);
        for (int kind = 1; kind <= RULES; kind++) {
            x.rule(kind - 1, kind, kind == 4 ? between(30, 70) : between(0, 7));
        }
        x.row(ROW, 0, 4);
        x.days(between(0, 5), between(0, 5), between(1, 3));
        x.image();
    }

    private int between(int least, int most) {
        return least + random.nextInt(most - least + 1);
    }

    private int oneIn(int n) {
        return random.nextInt(n) == 0 ? 1 << between(0, 3) : 0;
    }

    private int awake() {
        return x.stands(6);
    }

    private boolean canBe(int act) {
        return act == NONE || (x.can(awake()) >> act & 1) == 1;
    }

    private void gainsComeAbout() {
        int half = awake();
        for (int act = NONE; act < acts; act++) {
            if (canBe(act)) {
                int told = x.gain(act);
                int had = x.gained(half);
                int others = x.gained(1 - half);
                Check.due("days behind does(" + act + ")", x.does(act), x.status(2));
                Check.due("gain(" + act + ")", told, x.gained(half) - had);
                Check.due("value is what was gained", x.value(half), told);
                Check.due("the other gains nothing", x.gained(1 - half), others);
                Check.due("the other is awake", awake(), 1 - half);
                x.back();
            } else {
                Check.due("gain(" + act + ")", x.gain(act), -1000005);
                Check.due("does(" + act + ")", x.does(act), -5);
            }
        }
    }

    private void runsComeAbout() {
        for (int s = 0; s < RULES; s++) {
            int t = between(0, RULES - 1);
            int n = between(1, 20);
            int[] told = new int[5];
            for (int what = 0; what < 5; what++) {
                told[what] = x.run(s, t, n, what);
            }
            int[] had = {x.gained(0), x.gained(1)};
            if (n > 1) {
                x.days(s, t, n - 1);
            }
            Check.due("the last act of run(" + s + ", " + t + ", " + n + ", 4)", told[4], x.next(awake() == 0 ? s : t));
            x.days(s, t, 1);
            Check.due("run(.., 0)", told[0], x.gained(0) - had[0]);
            Check.due("run(.., 1)", told[1], x.gained(1) - had[1]);
            Check.due("run(.., 2)", told[2], x.stands(0));
            x.back();
        }
        longRun(between(0, RULES - 1), between(0, RULES - 1));
    }

    private void longRun(int s, int t) {
        int zero = x.run(s, t, 60, 0);
        int one = x.run(s, t, 60, 1);
        int marks = x.run(s, t, 60, 2);
        int had = x.gained(0);
        int hadOne = x.gained(1);
        int done = x.run(s, t, 60, 3);
        int doneInTruth = 0;
        for (int d = 0; d < 60; d++) {
            int act = x.next(awake() == 0 ? s : t);
            doneInTruth += act == NONE ? 0 : 1;
            x.does(act);
        }
        Check.due("run(" + s + ", " + t + ", 60, 0)", zero, x.gained(0) - had);
        Check.due("run(" + s + ", " + t + ", 60, 1)", one, x.gained(1) - hadOne);
        Check.due("run(" + s + ", " + t + ", 60, 2)", marks, x.stands(0));
        Check.due("run(" + s + ", " + t + ", 60, 3)", done, doneInTruth);
        x.back();
    }

    /** Each half takes the first act of what is best over the days that are left; nobody gains by another first act. */
    private void bestComesAbout() {
        for (int k = 1; k <= 4; k++) {
            int half = awake();
            int first = x.best(k, 2);
            int[] told = {x.best(k, 0), x.best(k, 1)};
            int[] had = {x.gained(0), x.gained(1)};
            for (int left = k; left >= 1; left--) {
                x.does(x.best(left, 2));
            }
            Check.due("best(" + k + ", 0)", told[0], x.gained(0) - had[0]);
            Check.due("best(" + k + ", 1)", told[1], x.gained(1) - had[1]);
            x.back();
            for (int act = NONE; act < acts; act++) {
                if (canBe(act)) {
                    int gains = x.gain(act);
                    x.does(act);
                    gains += k > 1 ? x.best(k - 1, half) : 0;
                    x.back();
                    boolean isNoBetter = act < first ? gains < told[half] : gains <= told[half];
                    Check.holds("best(" + k + ", 2) is " + first + ", not " + act, isNoBetter);
                }
            }
            x.rule(7, 3, k - 1);
            Check.due("a TURN by " + (k - 1), x.next(7), first);
        }
    }

    private void headIsTheMostOfRuns() {
        for (int t = 0; t < RULES; t++) {
            int n = between(1, 60);
            int half = awake();
            int first = NONE;
            int most = 0;
            for (int s = 0; s < RULES; s++) {
                int gains = half == 0 ? x.run(s, t, n, 0) : x.run(t, s, n, 1);
                if (first == NONE || gains > most) {
                    first = s;
                    most = gains;
                }
            }
            Check.due("head(" + t + ", " + n + ")", x.head(t, n), first);
        }
    }

    /** All rows of two days; of them, too, the fewest days for a work and what can be brought to stand. */
    private void togetherIsTheMostOfToldRows() {
        int most = Integer.MIN_VALUE;
        int stood = x.stands(0);
        for (int act = NONE; act < acts; act++) {
            for (int then = NONE; then < acts; then++) {
                x.set(ROW, 0, act);
                x.set(ROW, 1, then);
                int wrong = x.judge(ROW, 2);
                if (wrong != NONE) {
                    Check.due("told(6, 2, 0)", x.told(ROW, 2, 0), -1000005);
                    continue;
                }
                most = Math.max(most, x.told(ROW, 2, 0) + x.told(ROW, 2, 1));
                stood |= x.told(ROW, 2, 2);
            }
        }
        Check.due("together(2)", x.together(2), most);
        Check.due("harm(2)", x.harm(2), most - x.best(2, 0) - x.best(2, 1));
        Check.due("reach(2)", x.reach(2), stood);
        Check.due("harm(4)", x.harm(4), x.together(4) - x.best(4, 0) - x.best(4, 1));
        Check.holds("harm(4) is none below 0", x.harm(4) >= 0);
    }

    private void againstIsTheMostOfTrueDays() {
        int s = between(0, RULES - 1);
        int half = awake();
        int mostOfOne = Integer.MIN_VALUE;
        int mostOfThree = Integer.MIN_VALUE;
        for (int act = NONE; act < acts; act++) {
            if (canBe(act)) {
                int gains = x.gain(act);
                mostOfOne = Math.max(mostOfOne, gains);
                x.does(act);
                x.does(x.next(s));
                for (int then = NONE; then < acts; then++) {
                    mostOfThree = canBe(then) ? Math.max(mostOfThree, gains + x.gain(then)) : mostOfThree;
                }
                x.back();
            }
        }
        int[] most = {mostOfOne, mostOfOne, mostOfThree, mostOfThree};
        for (int k = 1; k <= 4; k++) {
            Check.due("against(" + s + ", " + k + ")", x.against(s, k), most[k - 1]);
            for (int own = 0; own < RULES; own++) {
                int zero = half == 0 ? own : s;
                int one = half == 0 ? s : own;
                int holds = most[k - 1] <= x.run(zero, one, k, half) ? 1 : 0;
                Check.due("pact(" + zero + ", " + one + ", " + k + ")", x.pact(zero, one, k), holds);
            }
        }
    }

    /** A work that takes some days takes one less behind the right first act, and none takes more than one less. */
    private void worksAreDone() {
        for (int i = 0; i < 5; i++) {
            int set = between(0, 15);
            int days = x.work(set, false);
            int alone = x.work(set, true);
            Check.holds("alone takes no less", alone == NONE || days != NONE && days <= alone);
            Check.holds("work(" + set + ") is 0 if it stands", (days == 0) == ((x.stands(0) & set) == set));
            int fewest = days == 0 ? -1 : 4;
            for (int act = NONE; act < acts && days != 0; act++) {
                if (canBe(act)) {
                    x.does(act);
                    int left = x.work(set, false);
                    fewest = left != NONE && left < fewest ? left : fewest;
                    x.back();
                }
            }
            Check.due("work(" + set + ", false)", days, fewest == 4 ? NONE : fewest + 1);
            Check.due("work(" + set + ", true)", alone, days == 0 ? 0 : daysAlone(set));
        }
        for (int mark = 0; mark < 8; mark++) {
            int days = x.work(1 << mark, false);
            for (int k = 0; k <= 4; k++) {
                boolean isReached = days != NONE && days <= k;
                Check.due("reach(" + k + ") of mark " + mark, x.reach(k) >> mark & 1, isReached ? 1 : 0);
            }
        }
    }

    /** An act, then, if that wasn't all, a day on which the other does nothing and an act more. */
    private int daysAlone(int set) {
        int fewest = NONE;
        for (int act = NONE; act < acts && fewest != 1; act++) {
            if (canBe(act)) {
                x.does(act);
                fewest = (x.stands(0) & set) == set ? 1 : fewest;
                x.does(NONE);
                fewest = fewest == NONE && x.work(set, true) == 1 ? 3 : fewest;
                x.back();
            }
        }
        return fewest;
    }

    private void foundIsWhatLooksAlike() {
        int hidden = x.stands(1);
        int could = x.can(awake()) | 1 << 10;
        int[] looks = new int[11];
        for (int act = 0; act <= 10; act++) {
            if ((could >> act & 1) == 1) {
                x.does(act == 10 ? NONE : act);
                looks[act] = look(hidden);
                x.back();
            }
        }
        for (int act = 0; act <= 10; act++) {
            if ((could >> act & 1) == 1) {
                x.does(act == 10 ? NONE : act);
                int alike = 0;
                for (int other = 0; other <= 10; other++) {
                    alike |= (could >> other & 1) == 1 && looks[other] == looks[act] ? 1 << other : 0;
                }
                Check.due("found() behind " + act, x.found(), alike);
                sayingLeavesWhatItSays(hidden);
                x.back();
            }
        }
    }

    private int look(int hidden) {
        return (x.stands(0) & ~hidden) | x.stands(2) << 8 | x.stands(3) << 13;
    }

    private void sayingLeavesWhatItSays(int hidden) {
        int fewer = Integer.bitCount(x.found());
        for (int w = 0; w <= 3; w++) {
            int set = x.say(w, 0);
            int left = x.say(w, 1);
            Check.due("how many words", Integer.bitCount(set), Math.min(w, Integer.bitCount(hidden)));
            Check.due("only what is hidden is said", set & ~hidden, 0);
            Check.holds("a word more leaves no more", left <= fewer);
            x.hide(hidden & ~set);
            Check.due("say(" + w + ", 1)", left, Integer.bitCount(x.found()));
            x.hide(hidden);
            fewer = left;
        }
    }

    private void locksAreWorthWhatTheyBring() {
        int half = awake();
        for (int k = 1; k <= 4; k++) {
            int first = NONE;
            int most = 0;
            int without = x.best(k, half);
            for (int act = 0; act < acts; act++) {
                int told = x.locking(act, k);
                boolean isNew = x.lock(1 - half, act, true) == 1;
                int brings = x.best(k, half) - without;
                x.back();
                Check.due("locking(" + act + ", " + k + ")", told, isNew ? brings : -1000005);
                if (isNew && brings > most) {
                    first = act;
                    most = brings;
                }
            }
            Check.due("which(" + k + ")", x.which(k), first);
        }
    }

    /** An act more at once is that act, then a day on which the other does nothing. */
    private void stayingUpIsADayTheOtherSleeps() {
        int half = awake();
        for (int k = 1; k <= 3; k++) {
            int told = x.up(k);
            int without = x.best(k, half);
            int most = without;
            for (int act = 0; act < acts; act++) {
                if (canBe(act)) {
                    x.does(act);
                    x.does(NONE);
                    most = Math.max(most, x.best(k, half));
                    x.back();
                }
            }
            Check.due("up(" + k + ")", told, most - without);
        }
    }
}
