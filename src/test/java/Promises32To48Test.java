import java.io.IOException;

/** Promises 32 to 48, sentence by sentence: what can be, what is found, locks, one who stays up, the year, the status. */
public final class Promises32To48Test {
    public static void main(String[] args) throws IOException {
        best();
        against();
        together();
        harm();
        work();
        reach();
        found();
        say();
        sayFewer();
        locking();
        which();
        up();
        pact();
        leap();
        seed();
        image();
        back();
        status();
        Doc.end("Promises32To48Test", "## Promise 32:", "## Not promised");
    }

    private static AwakeByHalves of(String text) {
        AwakeByHalves x = new AwakeByHalves();
        Check.town(x, text);
        return x;
    }

    /** What is asked k DAYS ahead is refused for fewer than the least, for more than the most, and for far more. */
    private static int[] beyond(int least, int most) {
        return new int[] {least - 1, most + 1, Integer.MIN_VALUE, Integer.MAX_VALUE};
    }

    /** HALF 0 has 6 by MARK 0, which HALF 1 breaks. */
    private static AwakeByHalves wall() {
        return of("act 1 0 0 1;act 2 0 0 1;likes 0 0 6;hates 1 0 6");
    }

    /** HALF 0 may have 3 by MARK 0 at once, or 50 by MARK 2 on its next DAY, if it makes MARK 1 now and leaves MARK 0. */
    private static AwakeByHalves patience() {
        AwakeByHalves x = of("act 1 0 0 1;act 1 1 0 1;act 1 2 0 1 need 1 bar 0;likes 0 0 3;likes 0 2 50");
        x.rule(0, 1, 0);
        x.rule(1, 5, 99);
        x.rule(2, 3, 2);
        x.rule(3, 6, 0);
        return x;
    }

    private static void best() {
        Doc.says("BEST of k DAYS: the first ACT (what 2; NONE); GAINS of a HALF (0, 1).");
        AwakeByHalves x = patience();
        int[] firsts = {0, 0, 1, 1};
        int[] gains = {3, 3, 50, 50};
        for (int k = 1; k <= 4; k++) {
            Check.due("the first of " + k, x.best(k, 2), firsts[k - 1]);
            Check.due("GAINS of HALF 0 in " + k, x.best(k, 0), gains[k - 1]);
            Check.due("GAINS of HALF 1 in " + k, x.best(k, 1), 0);
        }
        x = wall();
        x.does(0);
        x.lock(1, 1, true);
        Check.due("NONE", x.best(4, 2), -1);
        Check.due("GAINS below 0", x.best(4, 1), -12);
        Check.due("GAINS of the one that sleeps", x.best(4, 0), 12);
        Check.due("no ACTS", new AwakeByHalves().best(1, 2), -1);
        Doc.says("-1000002.");
        for (int k : beyond(1, 4)) {
            Check.due("k " + k, x.best(k, 2), -1000002);
        }
        Check.due("what -1", x.best(1, -1), -1000002);
        Check.due("what 3", x.best(1, 3), -1000002);
        Check.due("BAD; NONE was none", x.status(12), 6);
    }

    private static void against() {
        Doc.says("AGAINST the RULE in SHELF s over k DAYS.");
        AwakeByHalves x = patience();
        // IDLE by 99 does nothing; LOW makes MARK 1, or MARK 0 where none stands
        int[] idle = {3, 3, 50, 50};
        int[] low = {3, 3, 6, 6};
        for (int k = 1; k <= 4; k++) {
            Check.due("IDLE, " + k, x.against(1, k), idle[k - 1]);
            Check.due("LOW, " + k, x.against(3, k), low[k - 1]);
        }
        x = wall();
        x.rule(0, 1, 0);
        x.does(0);
        x.lock(1, 1, true);
        Check.due("HALF 1, below 0", x.against(0, 3), -12);
        Check.due("nothing is changed", x.status(2), 1);
        Doc.says("-1000002; -1000003; -1000004.");
        x.row(1, 0, 1);
        for (int k : beyond(1, 4)) {
            Check.due("k " + k, x.against(0, k), -1000002);
        }
        Check.due("SHELF -1", x.against(-1, 1), -1000002);
        Check.due("SHELF 8", x.against(8, 1), -1000002);
        Check.due("k 0, ahead of OTHER", x.against(1, 0), -1000002);
        Check.due("k 5, ahead of NOTHING", x.against(2, 5), -1000002);
        Check.due("a ROW", x.against(1, 1), -1000003);
        Check.due("NOTHING", x.against(2, 1), -1000004);
    }

    /** MARK 0 is 5 to HALF 0 and -8 to HALF 1, and can't be broken. */
    private static AwakeByHalves thorn() {
        return of("act 1 0 0 1;likes 0 0 5;hates 1 0 8");
    }

    private static void together() {
        Doc.says("TOGETHER over k DAYS.");
        AwakeByHalves x = thorn();
        int[] want = {5, 0, 5, 0};
        for (int k = 1; k <= 4; k++) {
            Check.due(k + " DAYS", x.together(k), want[k - 1]);
        }
        x.mark(0, true);
        Check.due("below 0", x.together(4), 5 - 8 + 5 - 8);
        Doc.says("-1000002.");
        for (int k : beyond(1, 4)) {
            Check.due("k " + k, x.together(k), -1000002);
        }
    }

    private static void harm() {
        Doc.says("How much TOGETHER over k DAYS is above GAINS of both by BEST.");
        AwakeByHalves x = thorn();
        // by BEST: 5; 5 and -8; 10 and -8; 10 and -16
        int[] want = {0, 3, 3, 6};
        for (int k = 1; k <= 4; k++) {
            Check.due(k + " DAYS", x.harm(k), want[k - 1]);
        }
        x.mark(0, true);
        Check.due("nothing can be done, so there is none", x.harm(4), 0);
        Check.due("no ACTS", new AwakeByHalves().harm(4), 0);
        Doc.says("-1000002.");
        for (int k : beyond(1, 4)) {
            Check.due("k " + k, x.harm(k), -1000002);
        }
    }

    /** MARKS 0 to 4, each needing the one ahead. */
    private static AwakeByHalves stairs() {
        return of("act 1 0 0 1;act 1 1 0 1 need 0;act 1 2 0 1 need 1;act 1 3 0 1 need 2;act 1 4 0 1 need 3");
    }

    private static void work() {
        Doc.says("WORK of a set of MARKS (alone false), ALONE (true); NONE.");
        AwakeByHalves x = stairs();
        int[] sets = {0, 1, 3, 7, 15, 31, 32, 255};
        int[] both = {0, 1, 2, 3, 4, -1, -1, -1};
        int[] alone = {0, 1, 3, -1, -1, -1, -1, -1};
        for (int i = 0; i < sets.length; i++) {
            Check.due("WORK of " + sets[i], x.work(sets[i], false), both[i]);
            Check.due("ALONE of " + sets[i], x.work(sets[i], true), alone[i]);
        }
        for (int m = 0; m < 8; m++) {
            x.mark(m, true);
        }
        Check.due("all stand", x.work(255, false), 0);
        Check.due("all stand", x.work(255, true), 0);
        Doc.says("BAD.");
        for (int set : new int[] {-1, 256, Integer.MIN_VALUE, Integer.MAX_VALUE}) {
            Check.due("set " + set, x.work(set, false), -2);
            Check.due("set " + set, x.work(set, true), -2);
        }
        Doc.says("(NONE isn't refused.)");
        x = new AwakeByHalves();
        Check.due("NONE", x.work(1, false), -1);
        Check.due("NONE", x.work(255, true), -1);
        for (int what = 12; what <= 16; what++) {
            Check.due("nothing is refused", x.status(what), 0);
        }
    }

    private static void reach() {
        Doc.says("MARKS (bits) that can be brought to stand within k DAYS (0 to 4) at all, each by itself.");
        AwakeByHalves x = stairs();
        int[] want = {0, 1, 3, 7, 15};
        for (int k = 0; k <= 4; k++) {
            Check.due("within " + k, x.reach(k), want[k]);
        }
        x.mark(7, true);
        Check.due("what stands", x.reach(0), 128);
        x.lock(1, 1, true);
        Check.due("HALF 1 can't make MARK 1", x.reach(2), 129);
        Check.due("HALF 0 can on the third", x.reach(3), 131);
        x = of("act 1 0 0 1 bar 1;act 1 1 0 1 bar 0;act 2 7 0 1;mark 7");
        Check.due("each by itself, though not both", x.reach(4), 131);
        Check.due("both can't", x.work(3, false), -1);
        Check.due("no ACTS", new AwakeByHalves().reach(4), 0);
        Doc.says("BAD.");
        for (int k : beyond(0, 4)) {
            Check.due("k " + k, x.reach(k), -2);
        }
    }

    private static void found() {
        Doc.says("FOUND (bits).");
        AwakeByHalves x = new AwakeByHalves();
        for (int a = 0; a < 10; a++) {
            x.act(3, a % 8, 0, 1, 0, 0);
        }
        x.does(9);
        Check.due("bits 1 and 9 turn MARK 1", x.found(), 512 + 2);
        x.does(-1);
        Check.due("bit 10: none", x.found(), 1024);
        x.hide(255);
        Check.due("all of them", x.found(), 2047);
        AwakeByHalves none = new AwakeByHalves();
        none.does(-1);
        Check.due("no ACTS: none", none.found(), 1024);
        Doc.says("STUCK.");
        Check.due("nothing was done", new AwakeByHalves().found(), -5);
        x.leap();
        Check.due("a DAY LEFT OVER came", x.found(), -5);
        Check.due("say() likewise", x.say(0, 0), -5);
        Check.due("STUCK, twice", x.status(15), 2);
        x.does(-1);
        Check.due("a DAY later", x.found(), 2047);
    }

    private static void says(AwakeByHalves x, int w, int set, int left) {
        Check.due("say(" + w + ", 0)", x.say(w, 0), set);
        Check.due("say(" + w + ", 1)", x.say(w, 1), left);
    }

    private static void say() {
        Doc.says("SAY in w words: the set of MARKS (what 0), how many ACTS it leaves in FOUND (1).");
        AwakeByHalves x = of("act 3 2 0 1;act 3 4 0 1;act 3 4 0 1;act 0 0 0 1");
        x.hide(255);
        x.does(1);
        Check.due("ACTS 0 to 2, or none", x.found(), 7 + 1024);
        says(x, 0, 0, 4);
        says(x, 1, 16, 2);
        says(x, 2, 16 + 1, 2);
        says(x, 8, 255, 2);
        Check.due("nothing is told in truth", x.stands(1), 255);
        x.does(3);
        says(x, 0, 0, 1);
        says(x, 1, 1, 1);
        says(x, 3, 7, 1);
        Doc.says("BAD; STUCK likewise.");
        AwakeByHalves fresh = new AwakeByHalves();
        int[][] bad = {{-1, 0}, {9, 0}, {0, -1}, {0, 2}, {Integer.MAX_VALUE, 1}};
        for (int[] b : bad) {
            Check.due("BAD", x.say(b[0], b[1]), -2);
            Check.due("BAD ahead of STUCK", fresh.say(b[0], b[1]), -2);
        }
        Check.due("nothing was done", fresh.say(0, 0), -5);
        Check.due("nothing was done", fresh.say(8, 1), -5);
        x.mark(0, true);
        Check.due("mark() was taken", x.say(1, 1), -5);
    }

    private static void sayFewer() {
        Doc.says("(Fewer HIDDEN MARKS than w: all of them.)");
        AwakeByHalves x = of("act 3 2 0 1;act 3 4 0 1");
        x.hide(20);
        x.does(0);
        says(x, 1, 4, 1);
        says(x, 2, 20, 1);
        says(x, 3, 20, 1);
        says(x, 8, 20, 1);
        x.hide(0);
        says(x, 0, 0, 1);
        says(x, 1, 0, 1);
        says(x, 8, 0, 1);
    }

    /**
     * HALF 0 has 9 by MARK 6 and 1 by each of COUNT 0. HALF 1 breaks MARK 6 (0), or drains it (1, 3 for COUNT 0), to make
     * MARK 2 (2), which is 10 to it, on its next DAY. HALF 0 can do nothing.
     */
    private static AwakeByHalves plot() {
        return of("act 2 6 0 1;act 5 6 0 3;act 1 2 0 1 bar 6;mark 6;likes 0 6 9;counts 0 0 1;likes 1 2 10;"
            + "locks 0 0;locks 0 1;locks 0 2");
    }

    /** The same with HALF 0 and HALF 1 the other way about, HALF 1 being awake. */
    private static AwakeByHalves plotOfHalf0() {
        AwakeByHalves x = of("act 2 6 0 1;act 5 6 0 3;act 1 2 0 1 bar 6;mark 6;likes 1 6 9;counts 1 0 1;likes 0 2 10;"
            + "locks 1 0;locks 1 1;locks 1 2");
        x.does(-1);
        return x;
    }

    private static void locking() {
        Doc.says("LOCKING an ACT over k DAYS.");
        AwakeByHalves x = plot();
        int[] worth = {3, 0, 9};
        for (int a = 0; a < 3; a++) {
            Check.due("ACT " + a + " over 4", x.locking(a, 4), worth[a]);
            for (int k = 1; k <= 3; k++) {
                Check.due("ACT " + a + " over " + k, x.locking(a, k), 0);
            }
            Check.due("it isn't LOCKED for HALF 1 by that", x.actOf(a, 6), 1);
        }
        x = plotOfHalf0();
        for (int a = 0; a < 3; a++) {
            Check.due("ACT " + a + " to HALF 1", x.locking(a, 4), worth[a]);
            Check.due("it isn't LOCKED for HALF 0 by that", x.actOf(a, 6), 2);
        }
        x = of("act 1 0 0 1;likes 0 0 5;likes 1 0 5;locks 0 0");
        Check.due("below 0", x.locking(0, 3), -5);
        Doc.says("-1000002; -1000005: it is LOCKED for the other.");
        for (int k : beyond(1, 4)) {
            Check.due("k " + k, x.locking(0, k), -1000002);
        }
        Check.due("ACT -1", x.locking(-1, 1), -1000002);
        Check.due("ACT 1 of one", x.locking(1, 1), -1000002);
        Check.due("no ACTS", new AwakeByHalves().locking(0, 1), -1000002);
        x.lock(1, 0, true);
        Check.due("LOCKED for HALF 1", x.locking(0, 1), -1000005);
        Check.due("k 5, ahead of that", x.locking(0, 5), -1000002);
        x.lock(0, 0, false);
        x.does(-1);
        Check.due("the other is HALF 0 now: HALF 1 can't", x.locking(0, 2), 0);
        x.lock(0, 0, true);
        Check.due("LOCKED for HALF 0", x.locking(0, 1), -1000005);
    }

    private static void which() {
        Doc.says("The ACT whose LOCKING is worth most over k DAYS, if more than 0, of several the first; NONE.");
        AwakeByHalves x = plot();
        Check.due("9 ahead of 3", x.which(4), 2);
        for (int k = 1; k <= 3; k++) {
            Check.due("0 for all over " + k, x.which(k), -1);
        }
        x.lock(1, 1, true);
        Check.due("without DRAIN both are worth 9: the first", x.which(4), 0);
        Check.due("BREAK", x.locking(0, 4), 9);
        Check.due("MAKE", x.locking(2, 4), 9);
        x.lock(1, 0, true);
        Check.due("what is LOCKED already is passed over: nothing is left to fear", x.which(4), -1);
        Check.due("nothing is LOCKED by it", x.status(4), 3);
        Check.due("MAKE is LOCKED for HALF 0 alone", x.actOf(2, 6), 1);
        x = plotOfHalf0();
        Check.due("to HALF 1", x.which(4), 2);
        x.lock(0, 1, true);
        Check.due("to HALF 1, the first of two", x.which(4), 0);
        Check.due("what is LOCKED for HALF 0 stays so", x.actOf(1, 6), 3);
        x = of("act 1 0 0 1;likes 0 0 5;likes 1 0 5;locks 0 0");
        Check.due("below 0", x.which(3), -1);
        Check.due("no ACTS", new AwakeByHalves().which(4), -1);
        Check.due("NONE isn't refused", x.status(12), 0);
        Doc.says("BAD.");
        for (int k : beyond(1, 4)) {
            Check.due("k " + k, x.which(k), -2);
        }
    }

    private static void up() {
        Doc.says("STAYING UP over k DAYS (1 to 3).");
        AwakeByHalves x = patience();
        // one more ACT: MARK 1 at once, then MARK 2 (50), then MARK 0 (53)
        Check.due("1", x.up(1), 50 - 3);
        Check.due("2", x.up(2), 50 - 3);
        Check.due("3", x.up(3), 50 + 53 - 50);
        Check.due("nothing is changed", x.status(2) + x.stands(0), 0);
        x = thorn();
        x.does(-1);
        Check.due("HALF 1, to which all is worse: none", x.up(3), 0);
        Doc.says("-1000002.");
        for (int k : beyond(1, 3)) {
            Check.due("k " + k, x.up(k), -1000002);
        }
    }

    private static void pact() {
        Doc.says("Whether the HALF that is awake HOLDS to its RULE over k DAYS (1 to 4), HALF 0 having that in SHELF s, HALF 1 that"
            + " in t: 1, if AGAINST the other's RULE it GAINS no more than by its own; else 0.");
        AwakeByHalves x = patience();
        int[] own = {1, 1, 0, 0};
        int[] turn = {0, 0, 1, 1};
        for (int k = 1; k <= 4; k++) {
            Check.due("OWN has the 3 of today, over " + k, x.pact(0, 1, k), own[k - 1]);
            Check.due("TURN has the 50 to come, over " + k, x.pact(2, 1, k), turn[k - 1]);
            Check.due("against LOW 3 and 3 are the most, over " + k, x.pact(0, 3, k), 1);
        }
        x = wall();
        x.rule(0, 1, 0);
        x.rule(1, 5, 99);
        Check.due("HALF 0 by OWN", x.pact(0, 1, 1), 1);
        Check.due("HALF 0 by IDLE", x.pact(1, 0, 1), 0);
        x.does(0);
        Check.due("HALF 1 by IDLE", x.pact(0, 1, 1), 0);
        Check.due("HALF 1 by OWN", x.pact(1, 0, 1), 1);
        Check.due("nothing is changed", x.status(2), 1);
        Doc.says("BAD; OTHER; NOTHING.");
        x.row(2, 0, 1);
        for (int k : beyond(1, 4)) {
            Check.due("k " + k, x.pact(0, 0, k), -2);
        }
        int[][] bad = {{-1, 0, 1}, {8, 0, 1}, {0, -1, 1}, {0, 8, 1}, {2, 3, 0}, {3, 3, 5}, {2, 8, 1}};
        for (int[] b : bad) {
            Check.due("BAD", x.pact(b[0], b[1], b[2]), -2);
        }
        Check.due("OTHER in s", x.pact(2, 0, 1), -3);
        Check.due("OTHER in t, ahead of NOTHING in s", x.pact(3, 2, 1), -3);
        Check.due("OTHER in s, ahead of NOTHING in t", x.pact(2, 3, 1), -3);
        Check.due("NOTHING in s", x.pact(3, 0, 1), -4);
        Check.due("NOTHING in t", x.pact(0, 3, 1), -4);
    }

    private static void leap() {
        Doc.says("A DAY LEFT OVER: the MARK.");
        AwakeByHalves x = new AwakeByHalves();
        x.does(-1);
        Check.due("the MARK", x.leap(), 6);
        Check.due("it stands", x.stands(0), 64);
        Check.due("no DAY is gone", x.status(2), 1);
        Check.due("HALF 1 is awake still", x.stands(6), 1);
        x.seed(0);
        Check.due("the least MARK", x.leap(), 0);
        Check.due("it stands, too", x.stands(0), 65);
        x.seed(0);
        x.leap();
        Check.due("it doesn't stand again", x.stands(0), 64);
    }

    private static void seed() {
        Doc.says("SEED becomes v: the one ahead.");
        AwakeByHalves x = new AwakeByHalves();
        Check.due("at first 1", x.seed(Integer.MAX_VALUE), 1);
        Check.due("the greatest", x.seed(Integer.MIN_VALUE), Integer.MAX_VALUE);
        Check.due("the least", x.seed(0), Integer.MIN_VALUE);
        Check.due("0", x.seed(-2), 0);
        Check.due("below 0, though it is what BAD is", x.seed(1), -2);
        Check.due("nothing is refused", x.status(12), 0);
        x.leap();
        Check.due("the one that a DRAW left", x.seed(5), 1103527590);
    }

    private static void image() {
        Doc.says("All is kept, but THE TAPE, SHELVES and status(): 1.");
        AwakeByHalves x = new AwakeByHalves();
        Check.due("of a new object", x.image(), 1);
        Check.town(x, "act 0 0 0 1;mark 0;count 3 9;likes 0 0 5;hides 1;locks 0 0");
        x.does(-1);
        x.seed(7);
        x.feed(97);
        x.rule(1, 1, 0);
        x.row(2, 0, 3);
        x.mark(8, true);
        x.next(2);
        x.next(3);
        x.does(0);
        x.does(0);
        Check.due("back", x.back(), 1);
        int[] told = {0, 0, 0, 0, 0, 1, 1, 2};
        for (int what = 0; what < 8; what++) {
            Check.due("status(" + what + ") of a new object, but THE TAPE and SHELVES", x.status(what), told[what]);
        }
        Check.due("WORTH", x.worthOf(0, 0), 0);
        Check.due("HIDDEN", x.stands(1), 0);
        Check.due("GAINS", x.gained(2), 0);
        Check.due("HALF 0 is awake", x.stands(6), 0);
        Check.due("nothing was done yet", x.found(), -5);
        Check.due("REFUSALS: BAD", x.status(12), 1);
        Check.due("OTHER", x.status(13), 1);
        Check.due("NOTHING", x.status(14), 1);
        Check.due("STUCK: found() now and does(0)", x.status(15), 2);
        Check.due("a RULE is there still", x.holds(1), 11);
    }

    private static void back() {
        Doc.says("All is again as it was kept: 1.");
        AwakeByHalves x = of("act 3 0 0 1;act 4 5 2 3 need 1 bar 7;mark 1;count 2 20;likes 0 0 5;hates 1 1 6;costs 0 2 1;hides 4;locks 1 1");
        x.does(0);
        x.image();
        String kept = AnyArgumentsTest.all(x);
        int found = x.found();
        for (int round = 0; round < 3; round++) {
            x.act(0, 0, 0, 1, 0, 0);
            x.mark(3, true);
            x.count(0, 4);
            x.likes(0, 0, -5);
            x.likes(1, 8, 5);
            x.lock(1, 1, false);
            x.lock(0, 0, true);
            x.hide(255);
            x.does(2);
            x.leap();
            x.seed(round);
            Check.due("back", x.back(), 1);
            Check.holds("all is as it was kept", kept.equals(AnyArgumentsTest.all(x)));
            Check.due("FOUND, too", x.found(), found);
        }
        x.mark(6, true);
        x.image();
        x.mark(6, false);
        x.back();
        Check.due("what was kept last", x.stands(0), 64 + 2 + 1);
        Check.due("FOUND is STUCK as it was then", x.found(), -5);
        Doc.says("STUCK: nothing was.");
        AwakeByHalves y = of("mark 1");
        Check.due("nothing was kept", y.back(), -5);
        Check.due("STUCK", y.status(15), 1);
        Check.due("nothing is changed", y.stands(0), 2);
        y.image();
        Check.due("something was", y.back(), 1);
    }

    private static void status() {
        Doc.says("ACTS (0), MARKS that stand (1), DAYS gone by (2), all COUNTS together (3), ACTS LOCKED for some HALF (4),"
            + " THE TAPE's size (5), SEED (6), SHELVES that hold something (7); 12 to 16: REFUSALS -2 to -6.");
        AwakeByHalves x = new AwakeByHalves();
        for (int i = 0; i < 10; i++) {
            x.act(0, 0, 0, 1, 0, 0);
            x.lock(i % 2, i, i < 9);
            x.mark(i % 8, true);
            x.count(i % 4, 23);
            x.rule(i % 8, 6, 0);
            x.does(-1);
        }
        x.lock(1, 0, true);
        x.seed(-1);
        for (int i = 0; i < 250; i++) {
            x.feed(32);
        }
        int[] most = {10, 8, 10, 92, 9, 250, -1, 8};
        for (int what = 0; what < 8; what++) {
            Check.due("status(" + what + ")", x.status(what), most[what]);
        }
        x.stands(9);
        x.row(0, 0, 1);
        for (int i = 0; i < 2; i++) {
            x.next(0);
        }
        AwakeByHalves y = new AwakeByHalves();
        for (int i = 0; i < 3; i++) {
            y.next(0);
        }
        for (int i = 0; i < 4; i++) {
            x.back();
        }
        for (int i = 0; i < 5; i++) {
            x.feed(32);
        }
        int[] refused = {1, 2, 0, 4, 5};
        for (int i = 0; i < 5; i++) {
            Check.due("REFUSALS " + (-2 - i), x.status(12 + i), refused[i]);
            Check.due("of another object", y.status(12 + i), i == 2 ? 3 : 0);
        }
        Doc.says("NONE another what.");
        for (int what : new int[] {-1, 8, 9, 10, 11, 17, 18, Integer.MIN_VALUE, Integer.MAX_VALUE}) {
            Check.due("status(" + what + ")", x.status(what), -1);
        }
        Check.due("nothing is refused by it", x.status(12), 1);
    }
}
