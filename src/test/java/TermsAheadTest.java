import java.io.IOException;

/** The document's Terms, 3: what can be, what is found and said, draws and shelves, sentence by sentence. */
public final class TermsAheadTest {
    public static void main(String[] args) throws IOException {
        best();
        against();
        together();
        work();
        alone();
        found();
        stuck();
        say();
        locking();
        stayingUp();
        toldRow();
        dayLeftOver();
        draw();
        shelves();
        rows();
        lowestBits();
        toldAsNumbers();
        Doc.end("TermsAheadTest", "==== 3. WHAT CAN BE", "REFUSALS (");
    }

    private static AwakeByHalves of(String text) {
        AwakeByHalves x = new AwakeByHalves();
        Check.town(x, text);
        return x;
    }

    /** MARKS 0 to 4, each needing the one ahead; HALF 0 has 5 by MARK 2, HALF 1 has 10 by MARK 3. */
    private static AwakeByHalves stairs() {
        return of("act 1 0 0 1;act 1 1 0 1 need 0;act 1 2 0 1 need 1;act 1 3 0 1 need 2;act 1 4 0 1 need 3;likes 0 2 5;likes 1 3 10");
    }

    private static void isBest(AwakeByHalves x, int k, int first, int gains0, int gains1) {
        Check.due("BEST of " + k + ", first", x.best(k, 2), first);
        Check.due("BEST of " + k + ", GAINS of HALF 0", x.best(k, 0), gains0);
        Check.due("BEST of " + k + ", GAINS of HALF 1", x.best(k, 1), gains1);
    }

    private static void best() {
        Doc.says("BEST of k DAYS (1 to 4), from now: each HALF, when awake, takes what brings its own GAINS of all these DAYS"
            + " the most, both knowing it; of several as good none ahead of ACTS, these by numbers.");
        AwakeByHalves x = stairs();
        Check.due("0 DAYS", x.best(0, 0), -1000002);
        Check.due("5 DAYS", x.best(5, 0), -1000002);
        // in 3 DAYS HALF 1 has nothing by MARK 1, so it does none, and so does HALF 0
        isBest(x, 1, -1, 0, 0);
        isBest(x, 2, -1, 0, 0);
        isBest(x, 3, -1, 0, 0);
        isBest(x, 4, 0, 5, 10);
        Check.town(x, "act 1 0 0 1");
        isBest(x, 4, 0, 5, 10);
        x.lock(0, 0, true);
        isBest(x, 4, 5, 5, 10);
        x = of("act 1 0 0 1;act 2 0 0 1;likes 0 0 6;hates 1 0 6");
        isBest(x, 1, 0, 6, 0);
        isBest(x, 4, 0, 12, 0);
        x.does(0);
        isBest(x, 1, 1, 0, 0);
        x.lock(1, 1, true);
        isBest(x, 1, -1, 0, -6);
        isBest(x, 4, -1, 12, -12);
        isBest(new AwakeByHalves(), 4, -1, 0, 0);
        bestFromNow();
    }

    /** What was asked once is no answer when something has changed since. */
    private static void bestFromNow() {
        AwakeByHalves x = of("act 1 0 0 1;likes 0 0 6");
        isBest(x, 3, 0, 12, 0);
        x.likes(0, 0, 7);
        isBest(x, 3, 0, 14, 0);
        x.lock(0, 0, true);
        isBest(x, 3, -1, 0, 0);
        x.image();
        x.act(3, 0, 0, 1, 0, 0);
        isBest(x, 3, 1, 14, 0);
        Check.town(x, "likes 0 0 8");
        isBest(x, 3, 1, 16, 0);
        x.mark(0, true);
        isBest(x, 3, -1, 16, 0);
        x.count(0, 2);
        x.likes(0, 8, 1);
        isBest(x, 3, -1, 20, 0);
        x.does(-1);
        isBest(x, 3, -1, 10, 0);
        x.seed(1);
        x.likes(0, 6, 9);
        x.leap();
        isBest(x, 3, -1, 19, 0);
        x.back();
        isBest(x, 3, -1, 0, 0);
    }

    private static void against() {
        Doc.says("AGAINST a RULE of the other: the greatest sum of GAINS of the HALF that is awake now over k DAYS,"
            + " the other acting by the RULE.");
        AwakeByHalves x = stairs();
        x.rule(0, 6, 0);
        x.rule(1, 1, 0);
        int[] low = {0, 0, 5, 5};
        for (int k = 1; k <= 4; k++) {
            Check.due("LOW helps, " + k, x.against(0, k), low[k - 1]);
            Check.due("OWN doesn't, " + k, x.against(1, k), 0);
        }
        Check.due("0 DAYS", x.against(0, 0), -1000002);
        Check.due("5 DAYS", x.against(0, 5), -1000002);
        x.does(0);
        x.does(1);
        x.does(2);
        x.lock(1, 3, true);
        Check.due("HALF 1 against LOW of HALF 0, which makes MARK 3", x.against(0, 3), 10);
        Check.due("against OWN, which doesn't", x.against(1, 3), 0);
        Check.town(x, "hates 1 0 9;hates 1 1 9");
        Check.due("the greatest may be below 0", x.against(1, 4), -36);
    }

    private static void together() {
        Doc.says("TOGETHER: of all rows of choices for k DAYS the greatest sum of GAINS of both.");
        AwakeByHalves x = stairs();
        int[] want = {0, 0, 5, 15};
        for (int k = 1; k <= 4; k++) {
            Check.due(k + " DAYS", x.together(k), want[k - 1]);
        }
        Check.due("0 DAYS", x.together(0), -1000002);
        Check.due("5 DAYS", x.together(5), -1000002);
        x = of("act 0 0 0 1;mark 0;hates 0 0 9;hates 1 0 8;costs 0 0 1");
        Check.due("the greatest may be below 0", x.together(3), -26);
    }

    private static void work() {
        Doc.says("WORK: the fewest DAYS (0 to 4) behind which all of a set of MARKS stand, whatever is chosen helping;"
            + " NONE: not in 4.");
        AwakeByHalves x = stairs();
        Check.due("no MARK", x.work(0, false), 0);
        for (int m = 0; m < 5; m++) {
            Check.due("MARK " + m, x.work(1 << m, false), m < 4 ? m + 1 : -1);
            Check.due("MARKS 0 to " + m, x.work((2 << m) - 1, false), m < 4 ? m + 1 : -1);
        }
        Check.due("a MARK that no ACT makes", x.work(128, false), -1);
        x.mark(7, true);
        Check.due("one that stands", x.work(128, false), 0);
        Check.due("one that stands, and four", x.work(128 + 15, false), 4);
        x.lock(1, 1, true);
        Check.due("HALF 1 can't: HALF 0 makes MARK 1 on the third DAY", x.work(2, false), 3);
        x = of("act 1 0 0 1 bar 1;act 1 1 0 1;act 2 1 0 1;mark 1");
        Check.due("a MARK falls and is made again", x.work(3, false), 3);
    }

    private static void alone() {
        Doc.says("ALONE: likewise, if the other HALF does nothing.");
        AwakeByHalves x = stairs();
        Check.due("no MARK", x.work(0, true), 0);
        Check.due("one", x.work(1, true), 1);
        Check.due("two: the other's DAY between", x.work(3, true), 3);
        Check.due("three would take 5", x.work(7, true), -1);
        x.lock(0, 0, true);
        Check.due("HALF 0 can't", x.work(1, true), -1);
        Check.due("with the other", x.work(1, false), 2);
        x.does(-1);
        Check.due("HALF 1 can", x.work(1, true), 1);
        Check.due("HALF 1 alone, two", x.work(3, true), 3);
        Check.due("HALF 1 with the other, two", x.work(3, false), 2);
        Check.due("HALF 1 alone, three", x.work(7, true), -1);
    }

    private static void found() {
        Doc.says("FOUND: the ACTS (bits; bit 10: none) that the HALF which isn't awake now may have done on the DAY ahead,"
            + " by what is seen: of the town as it was before that ACT all is known; those that lead to a town that looks"
            + " like the one there is: all COUNTS, and MARKS that aren't HIDDEN.");
        AwakeByHalves x = of("act 1 0 0 1;act 3 0 0 1;act 3 7 0 1;act 0 0 3 1;act 2 0 0 1;locks 0 1");
        x.does(0);
        Check.due("TURN is LOCKED for the one that did it", x.found(), 1);
        x.hide(129);
        Check.due("all that may be: BREAK not, as MARK 0 didn't stand", x.found(), 1 + 4 + 1024);
        x.hide(254);
        Check.due("MARK 0 is seen", x.found(), 1);
        x.hide(255);
        x.does(3);
        Check.due("COUNTS are seen, all MARKS being HIDDEN", x.found(), 8);
        x.count(3, 23);
        x.does(3);
        Check.due("a COUNT that can't be more looks like none", x.found(), 4 + 8 + 16 + 1024);
        for (int a = 5; a < 10; a++) {
            x.act(3, 6, 0, 1, 0, 0);
        }
        x.does(9);
        Check.due("ten ACTS, and none", x.found(), 1024 + 1022);
        x.hide(0);
        Check.due("those that turn MARK 6", x.found(), 512 + 256 + 128 + 64 + 32);
    }

    private static AwakeByHalves known() {
        AwakeByHalves x = of("act 3 0 0 1;count 1 5");
        x.does(0);
        Check.due("known", x.found(), 1);
        return x;
    }

    private static void isStuck(String why, AwakeByHalves x) {
        Check.due(why, x.found(), -5);
        Check.due(why + ", say", x.say(0, 1), -5);
        x.does(-1);
        Check.due("a DAY later", x.found(), 1024);
    }

    private static void stuck() {
        Doc.says("(STUCK, if nothing was done yet, or since then act(), mark(), count(), lock() were taken, a TOWN was,"
            + " a DAY LEFT OVER came.)");
        isStuck("nothing was done yet", new AwakeByHalves());
        AwakeByHalves x = known();
        x.act(0, 0, 0, 1, 0, 0);
        isStuck("act()", x);
        x = known();
        x.mark(0, false);
        isStuck("mark()", x);
        x = known();
        x.count(1, 6);
        isStuck("count()", x);
        x = known();
        x.lock(0, 0, true);
        isStuck("lock()", x);
        x = known();
        Check.town(x, "hides 1");
        isStuck("a TOWN", x);
        x = known();
        x.leap();
        isStuck("a DAY LEFT OVER", x);
        x = known();
        x.act(6, 0, 0, 1, 0, 0);
        x.mark(8, true);
        x.count(4, 1);
        x.lock(2, 0, true);
        Check.town(x, "hides");
        Check.due("what is refused isn't taken", x.found(), 1);
    }

    private static void says(AwakeByHalves x, int w, int set, int left) {
        Check.due("say(" + w + ", 0)", x.say(w, 0), set);
        Check.due("say(" + w + ", 1)", x.say(w, 1), left);
    }

    private static void say() {
        Doc.says("SAY: in w words (0 to 8) w HIDDEN MARKS may be told: those that leave the fewest ACTS in FOUND,"
            + " of several the least set.");
        AwakeByHalves x = of("act 3 1 0 1;act 3 5 0 1;act 3 7 0 1;act 3 7 0 1");
        x.hide(255);
        x.does(2);
        says(x, 0, 0, 5);
        says(x, 1, 128, 2);
        says(x, 2, 129, 2);
        says(x, 7, 128 + 63, 2);
        says(x, 8, 255, 2);
        Check.due("-1 words", x.say(-1, 0), -2);
        Check.due("9 words", x.say(9, 0), -2);
        x.hide(127);
        Check.due("MARK 7 is seen", x.found(), 4 + 8);
        says(x, 1, 1, 2);
        x.does(-1);
        x.hide(255);
        // none was done: MARK 7 as it was leaves three, MARK 1 or 5 as it was leaves four
        says(x, 1, 128, 3);
        says(x, 2, 128 + 2, 2);
        says(x, 3, 128 + 32 + 2, 1);
        says(x, 4, 128 + 32 + 2 + 1, 1);
    }

    private static void locking() {
        Doc.says("LOCKING an ACT for the other HALF is worth to the one awake: GAINS by BEST of k DAYS with it LOCKED,"
            + " less without.");
        AwakeByHalves x = of("act 1 0 0 1;act 2 0 0 1;act 0 0 0 1;likes 0 0 6;hates 1 0 6;counts 0 0 1");
        // BREAK LOCKED for HALF 1: 6, then 7 by ACT, instead of 6 and 6
        Check.due("BREAK, 3", x.locking(1, 3), 1);
        Check.due("BREAK, 2: HALF 0 has no DAY behind it", x.locking(1, 2), 0);
        Check.due("MAKE, 4", x.locking(0, 4), 0);
        Check.due("nothing is LOCKED by it", x.status(4), 0);
        x = of("act 1 0 0 1;likes 0 0 5;likes 1 0 5;locks 0 0");
        Check.due("it may be below 0", x.locking(0, 3), -5);
        Check.due("0 DAYS", x.locking(0, 0), -1000002);
        Check.due("5 DAYS", x.locking(0, 5), -1000002);
    }

    private static void stayingUp() {
        Doc.says("STAYING UP: GAINS of the HALF that is awake by BEST of k DAYS, if it could do one ACT more at once now"
            + " (that one first, any that CAN be, or none, nothing being GAINED by it), less without.");
        AwakeByHalves x = stairs();
        Check.due("1 DAY: MARKS 0, 1 bring nothing", x.up(1), 0);
        x.does(0);
        x.does(-1);
        Check.due("1 DAY: MARK 1, then MARK 2", x.up(1), 5);
        Check.due("3 DAYS: 5 and 5, not 5 alone", x.up(3), 5);
        Check.due("0 DAYS", x.up(0), -1000002);
        Check.due("4 DAYS", x.up(4), -1000002);
        x = of("act 1 0 0 1;hates 0 0 9");
        Check.due("none, where all that CAN be is worse", x.up(3), 0);
        x = of("act 0 0 0 1;counts 0 0 9");
        Check.due("nothing is GAINED by the ACT itself: 18, not 9 and 18", x.up(1), 9);
        x.lock(0, 0, true);
        Check.due("it CAN'T be", x.up(1), 0);
        Check.due("no ACTS", new AwakeByHalves().up(3), 0);
    }

    private static void toldRow() {
        Doc.says("A told ROW of ACTS, one a DAY (elements that are no ACT: none): WRONG at the first that CAN'T be.");
        AwakeByHalves x = of("act 1 0 0 1;act 2 0 0 1;locks 0 1");
        x.row(0, 3, 5);
        long[] none = {-1, 2, 10, Long.MIN_VALUE, 1L << 32};
        for (int i = 0; i < 5; i++) {
            x.set(0, i, none[i]);
        }
        Check.due("none, five times", x.judge(0, 5), -1);
        Check.due("nothing stands", x.told(0, 5, 2), 0);
        x.set(0, 1, 0);
        x.set(0, 3, 1);
        Check.due("HALF 1 makes it, and breaks it", x.judge(0, 5), -1);
        x.set(0, 2, 1);
        Check.due("HALF 0 can't break it", x.judge(0, 5), 2);
        x.set(0, 4, 1);
        Check.due("the first of two", x.judge(0, 5), 2);
        Check.due("it isn't looked at", x.judge(0, 2), -1);
        x.set(0, 0, 1);
        Check.due("the very first", x.judge(0, 1), 0);
    }

    private static void dayLeftOver() {
        Doc.says("A DAY LEFT OVER: a DRAW below 8: that MARK turns (stands, if it didn't, and the other way about);"
            + " it is no DAY.");
        AwakeByHalves x = of("likes 0 6 9;hides 6");
        Check.due("the DRAW", x.leap(), 6);
        Check.due("MARK 6 stands, though HIDDEN", x.stands(0), 64);
        x.seed(1);
        Check.due("the same DRAW", x.leap(), 6);
        Check.due("MARK 6 doesn't", x.stands(0), 0);
        Check.due("no DAY is gone", x.status(2), 0);
        Check.due("HALF 0 is awake", x.stands(6), 0);
        Check.due("nothing is GAINED", x.gained(2), 0);
        int seen = 0;
        for (int i = 0; i < 200; i++) {
            int mark = x.leap();
            Check.holds("below 8: " + mark, mark >= 0 && mark < 8);
            seen |= 1 << mark;
        }
        Check.due("all of them come", seen, 255);
    }

    private static void draws(int seed, int then, int mark) {
        AwakeByHalves x = new AwakeByHalves();
        x.seed(seed);
        Check.due("the MARK of SEED " + seed, x.leap(), mark);
        Check.due("SEED behind " + seed, x.status(6), then);
    }

    private static void draw() {
        Doc.says("A DRAW below n: SEED (1 at first) becomes SEED times 1103515245, and 12345 (an int, wrapping);"
            + " its upper 16 bits, no sign, modulo n.");
        AwakeByHalves x = new AwakeByHalves();
        Check.due("SEED at first", x.status(6), 1);
        draws(1, 1103527590, 16838 % 8);
        draws(0, 12345, 0);
        // below 0: the upper 16 bits are 48697, with a sign they would be -16839
        draws(-1, -1103502900, 48697 % 8);
        draws(Integer.MAX_VALUE, 1043980748, 15929 % 8);
        draws(Integer.MIN_VALUE, Integer.MIN_VALUE + 12345, 32768 % 8);
        // the next DRAW goes on from there: 1103527590 * 1103515245 + 12345, its lowest 32 bits
        x.leap();
        x.leap();
        Check.due("SEED behind two", x.status(6), (int) (1103527590L * 1103515245L + 12345L));
    }

    private static void shelves() {
        Doc.says("SHELVES 0 to 7 hold NOTHING (at first), a ROW, or a RULE.");
        AwakeByHalves x = new AwakeByHalves();
        for (int s = 0; s < 8; s++) {
            Check.due("SHELF " + s + " at first", x.holds(s), -1);
            Check.due("NOTHING to say", x.next(s), -4);
            Check.due("a ROW", x.row(s, 0, 1), 1);
            Check.due("it holds that", x.holds(s), 0);
            Check.due("a RULE in its place", x.rule(s, 6, 0), 1);
            Check.due("it holds that", x.holds(s), 16);
        }
        Check.due("SHELF 8, a ROW", x.row(8, 0, 1), -2);
        Check.due("SHELF -1, a RULE", x.rule(-1, 6, 0), -2);
        Check.due("eight hold something", x.status(7), 8);
    }

    private static void rows() {
        Doc.says("A ROW has a SORT (0 bytes, 1 shorts, 2 ints, 3 longs, 4 booleans) and 0 to 40 elements"
            + " (0, or not so, at first);");
        AwakeByHalves x = new AwakeByHalves();
        for (int sort = 0; sort < 5; sort++) {
            Check.due("no elements", x.row(0, sort, 0), 1);
            Check.due("so none is there", x.set(0, 0, 1), -2);
            Check.due("40 elements", x.row(0, sort, 40), 1);
            for (int i = 0; i < 40; i++) {
                Check.due("0 at first", x.element(0, i), 0);
            }
            Check.due("the first", x.set(0, 0, 1), 1);
            Check.due("the last", x.set(0, 39, 1), 1);
            Check.due("one more", x.set(0, 40, 1), -2);
            Check.due("41 elements", x.row(0, sort, 41), -2);
            Check.due("-1 elements", x.row(0, sort, -1), -2);
        }
        Check.due("SORT 5", x.row(0, 5, 1), -2);
        Check.due("SORT -1", x.row(0, -1, 1), -2);
    }

    private static void keeps(int sort, long v, long want) {
        AwakeByHalves x = new AwakeByHalves();
        x.row(0, sort, 1);
        x.set(0, 0, v);
        Check.due("SORT " + sort + ", " + v, x.element(0, 0), want);
    }

    private static void lowestBits() {
        Doc.says("what is put in keeps its lowest bits (of booleans: whether it is not 0);");
        for (int sort = 0; sort < 4; sort++) {
            int bits = 8 << sort;
            long most = (1L << bits - 1) - 1;
            keeps(sort, most, most);
            keeps(sort, -most - 1, -most - 1);
            keeps(sort, most + 1, -most - 1);
            keeps(sort, -most - 2, most);
            keeps(sort, -1, -1);
        }
        keeps(0, 256, 0);
        keeps(1, 65536, 0);
        keeps(2, 1L << 32, 0);
        keeps(4, 0, 0);
        keeps(4, 1, 1);
        keeps(4, 2, 1);
        keeps(4, -1, 1);
        keeps(4, 256, 1);
        keeps(4, 1L << 32, 1);
        keeps(4, Long.MIN_VALUE, 1);
    }

    private static void toldAsNumbers() {
        Doc.says("told they are numbers (1, 0).");
        AwakeByHalves x = of("act 2 0 0 1;act 1 0 0 1");
        x.row(0, 4, 2);
        x.set(0, 0, 77);
        Check.due("so", x.element(0, 0), 1);
        Check.due("not so", x.element(0, 1), 0);
        Check.due("as ACTS they are 1 and 0: made, broken", x.judge(0, 2), -1);
        Check.due("1", x.told(0, 1, 2), 1);
        Check.due("0", x.told(0, 2, 2), 0);
    }
}
