/** Promises 32 to 37 and 40 to 43: BEST, AGAINST, TOGETHER, harm, WORK, reach, LOCKING, STAYING UP, pacts. */
public final class AheadTest {
    public static void main(String[] args) {
        best();
        bestTies();
        against();
        together();
        harm();
        work();
        workOfAll();
        reach();
        locking();
        lockingHurts();
        up();
        pact();
        changesAreSeen();
        goneActs();
        fullTown();
        refusals();
        Check.end("AheadTest");
    }

    /**
     * 0 ACT (count 0, 1 more), 1 MAKE 1, 2 BREAK 1. Half 0: each of count 0 is 2, mark 1 is 5; half 1: mark 1 is -9.
     * Half 1 will always break mark 1.
     */
    private static AwakeByHalves fence() {
        AwakeByHalves x = new AwakeByHalves();
        Check.town(x, "act 0 0 0 1;act 1 1 0 1;act 2 1 0 1;counts 0 0 2;likes 0 1 5;hates 1 1 9");
        return x;
    }

    private static void isBest(AwakeByHalves x, int k, int first, int gains0, int gains1) {
        Check.due("BEST of " + k + ", first", x.best(k, 2), first);
        Check.due("BEST of " + k + ", gains of 0", x.best(k, 0), gains0);
        Check.due("BEST of " + k + ", gains of 1", x.best(k, 1), gains1);
    }

    private static void best() {
        AwakeByHalves x = fence();
        isBest(x, 1, 1, 5, 0);
        isBest(x, 2, 1, 5, 0);
        isBest(x, 3, 1, 10, 0);
        isBest(x, 4, 1, 10, 0);
        x.does(1);
        isBest(x, 1, 2, 0, 0);
        isBest(x, 2, 2, 5, 0);
        x.lock(1, 2, true);
        isBest(x, 1, -1, 0, -9);
        // half 0 keeps mark 1 and counts 1: 7
        isBest(x, 2, -1, 7, -9);
        Check.due("nothing is changed", x.status(2), 1);
    }

    /** Half 1 is indifferent: it does nothing, though an act would be worth much to half 0. */
    private static void bestTies() {
        AwakeByHalves x = new AwakeByHalves();
        Check.town(x, "act 1 3 0 1;likes 0 3 50;locks 0 0");
        isBest(x, 4, -1, 0, 0);
        Check.due("TOGETHER half 1 would", x.together(3), 50);
        Check.town(x, "likes 1 3 1");
        isBest(x, 4, -1, 50, 2);
        Check.town(x, "act 3 3 0 1;locks 0 1");
        x.does(-1);
        Check.due("the lower number of two", x.best(3, 2), 0);
    }

    private static void against() {
        AwakeByHalves x = fence();
        x.rule(0, 6, 0);
        x.rule(1, 1, 0);
        Check.due("LOW, 1", x.against(0, 1), 5);
        Check.due("LOW, 2", x.against(0, 2), 5);
        // MAKE 1 (5), the other counts, then count too: 4 and 5
        Check.due("LOW, 3", x.against(0, 3), 14);
        Check.due("LOW, 4", x.against(0, 4), 14);
        Check.due("OWN, 3", x.against(1, 3), 10);
        x.does(1);
        Check.due("half 1 against OWN of half 0, 1", x.against(1, 1), 0);
        Check.due("half 1 against OWN of half 0, 3", x.against(1, 3), 0);
        x.lock(1, 2, true);
        Check.due("half 1 can't break it", x.against(1, 3), -18);
        Check.due("nothing is changed", x.status(2), 1);
    }

    private static void together() {
        AwakeByHalves x = fence();
        Check.due("TOGETHER, 1", x.together(1), 5);
        Check.due("TOGETHER, 2", x.together(2), 5);
        // count 1 (2), count 2, MAKE 1: 4 and 5
        Check.due("TOGETHER, 3", x.together(3), 11);
        Check.due("TOGETHER, 4: and BREAK 1", x.together(4), 11);
        x.does(1);
        Check.due("half 1 breaks it, half 0 makes it", x.together(2), 5);
        x.lock(1, 2, true);
        // -9 whatever half 1 does; it counts for half 0, which counts too
        Check.due("half 1 can't break it", x.together(2), 0);
    }

    private static void harm() {
        AwakeByHalves x = fence();
        Check.due("harm(1)", x.harm(1), 0);
        Check.due("harm(2)", x.harm(2), 0);
        Check.due("harm(3)", x.harm(3), 1);
        Check.due("harm(4)", x.harm(4), 1);
        x = new AwakeByHalves();
        Check.town(x, "act 1 0 0 1;act 1 1 0 1;likes 0 0 5;likes 1 1 7;hates 1 0 6");
        // BEST: mark 0 (5), mark 1 (1). TOGETHER: none (0), mark 1 (7)
        Check.due("gains of 1 by BEST", x.best(2, 1), 1);
        Check.due("harm with gains of both", x.harm(2), 1);
    }

    /** Mark 0, then mark 1, then mark 2, each needing the one ahead; mark 3 fills from 2 of count 0. */
    private static AwakeByHalves tower() {
        AwakeByHalves x = new AwakeByHalves();
        Check.town(x, "act 1 0 0 1;act 1 1 0 1 need 0;act 1 2 0 1 need 1 bar 3;act 4 3 0 2;act 0 0 0 1;act 2 0 0 1");
        return x;
    }

    private static void work() {
        AwakeByHalves x = tower();
        int[] sets = {0, 1, 2, 4, 3, 7, 8, 9, 6, 12, 128};
        int[] by = {0, 1, 2, 3, 2, 3, 3, 4, 3, -1, -1};
        int[] alone = {0, 1, 3, -1, 3, -1, -1, -1, -1, -1, -1};
        for (int i = 0; i < sets.length; i++) {
            Check.due("WORK of " + sets[i], x.work(sets[i], false), by[i]);
            Check.due("ALONE of " + sets[i], x.work(sets[i], true), alone[i]);
        }
        Check.due("NONE is not refused", x.status(12) + x.status(15), 0);
        x.count(0, 2);
        Check.due("filled at once", x.work(8, true), 1);
        Check.due("mark 2 ahead of mark 3: 4 days", x.work(12, false), 4);
        x.mark(0, true);
        Check.due("it stands", x.work(1, true), 0);
        x.lock(0, 1, true);
        Check.due("half 1 has to", x.work(2, false), 2);
        Check.due("half 0 can't", x.work(2, true), -1);
        x.does(-1);
        Check.due("half 1 can", x.work(2, true), 1);
        x.mark(0, false);
        Check.due("half 1 makes mark 0 first, half 0 then can't", x.work(2, false), 3);
        Check.due("half 1 alone", x.work(2, true), 3);
        Check.due("half 1 alone, three marks", x.work(7, true), -1);
        Check.due("set -1", x.work(-1, false), -2);
        Check.due("set 256", x.work(256, true), -2);
    }

    private static void workOfAll() {
        AwakeByHalves x = new AwakeByHalves();
        for (int m = 0; m < 8; m++) {
            x.act(1, m, 0, 1, 0, 0);
            x.mark(m, m > 3);
        }
        Check.due("4 marks in 4 days", x.work(255, false), 4);
        Check.due("not alone", x.work(255, true), -1);
        Check.due("2 marks alone", x.work(243, true), 3);
        x.mark(4, false);
        Check.due("5 marks", x.work(255, false), -1);
    }

    private static void reach() {
        AwakeByHalves x = tower();
        int[] want = {0, 1, 3, 15, 15};
        for (int k = 0; k <= 4; k++) {
            Check.due("reach(" + k + ")", x.reach(k), want[k]);
        }
        x.mark(7, true);
        Check.due("what stands is there", x.reach(0), 128);
        x.lock(1, 1, true);
        x.lock(1, 3, true);
        Check.due("half 0 alone builds mark 1", x.reach(2), 129);
        Check.due("on day 3", x.reach(3), 128 + 11);
        x.lock(0, 0, true);
        x.lock(1, 0, true);
        Check.due("no mark 0, so no mark 1", x.reach(4), 128 + 8);
        Check.due("reach(5)", x.reach(5), -2);
        Check.due("reach(-1)", x.reach(-1), -2);
        Check.due("nothing is changed", x.status(2), 0);
    }

    private static void locking() {
        AwakeByHalves x = fence();
        Check.due("locking(0, 3)", x.locking(0, 3), 0);
        Check.due("locking(1, 3)", x.locking(1, 3), 0);
        // 5, then 2 and 5 instead of 5 and 5
        Check.due("locking(2, 3)", x.locking(2, 3), 2);
        Check.due("locking(2, 4)", x.locking(2, 4), 2);
        Check.due("locking(2, 1)", x.locking(2, 1), 0);
        Check.due("which(3)", x.which(3), 2);
        Check.due("which(1)", x.which(1), -1);
        Check.due("nothing is locked", x.status(4), 0);
        x.lock(0, 2, true);
        Check.due("locked for half 0 is no matter", x.locking(2, 3), 2);
        Check.due("it stays so", x.actOf(2, 6), 1);
        x.lock(1, 2, true);
        Check.due("LOCKED for the other", x.locking(2, 3), -1000005);
        Check.due("no other is worth it", x.which(3), -1);
        Check.due("it stays so", x.actOf(2, 6), 3);
        Check.due("act 3", x.locking(3, 3), -1000002);
        Check.due("act -1", x.locking(-1, 3), -1000002);
        Check.due("k 0", x.locking(0, 0), -1000002);
        Check.due("k 5", x.locking(2, 5), -1000002);
        Check.due("which(0)", x.which(0), -2);
        Check.due("which(5)", x.which(5), -2);
        x = fence();
        x.act(2, 1, 0, 1, 0, 0);
        Check.due("another way to break it", x.locking(2, 3), 0);
        Check.due("so no lock is worth it", x.which(3), -1);
        x.does(-1);
        Check.due("for half 1", x.locking(1, 2), 0);
        Check.due("for half 1: half 0 can't make it then", x.locking(1, 3), 0);
        x.lock(1, 2, true);
        x.lock(1, 3, true);
        Check.due("for half 1, that can't break it", x.locking(1, 3), 9);
        Check.due("which for half 1", x.which(3), 1);
        x.lock(0, 1, true);
        Check.due("LOCKED for the other, which is half 0 now", x.locking(1, 3), -1000005);
        Check.due("no other is worth it", x.which(3), -1);
        Check.due("it stays so", x.actOf(1, 6), 1);
        x.lock(0, 1, false);
        Check.due("FOUND is not known by lock()", x.found(), -5);
        x.does(-1);
        x.locking(0, 2);
        x.which(2);
        Check.due("FOUND is known behind locking()", x.found(), 1024);
    }

    private static void lockingHurts() {
        AwakeByHalves x = new AwakeByHalves();
        Check.town(x, "act 1 0 0 1;act 1 1 0 1;act 1 2 0 1;likes 0 0 5;likes 1 0 5;locks 0 0");
        Check.due("what half 1 does is good", x.locking(0, 3), -5);
        Check.due("nothing is worth more than 0", x.which(3), -1);
        Check.town(x, "hates 0 1 3;hates 0 2 3;likes 1 1 7;likes 1 2 6");
        // without: 0, half 1 makes mark 1, -3; with: half 0 makes mark 2 itself (-3), so half 1 makes mark 0 (-3 and 5)
        Check.due("half 1 would make mark 1", x.locking(1, 3), 2);
        Check.town(x, "hates 0 1 4");
        Check.due("the same, mark 1 being worse", x.locking(1, 3), 3);
        Check.due("which", x.which(3), 1);
        x = new AwakeByHalves();
        Check.town(x, "act 1 0 0 1;act 3 1 0 1;hates 0 0 1;likes 1 0 1;likes 1 1 1;locks 1 1");
        Check.due("worth just 1", x.locking(0, 3), 1);
        Check.due("the first act of all", x.which(3), 0);
    }

    private static void up() {
        AwakeByHalves x = fence();
        Check.due("up(1): count, and MAKE 1", x.up(1), 2);
        Check.due("up(2)", x.up(2), 2);
        Check.due("up(3)", x.up(3), 4);
        Check.due("up(0)", x.up(0), -1000002);
        Check.due("up(4)", x.up(4), -1000002);
        Check.due("nothing is changed", x.status(2) + x.status(3), 0);
        x.lock(0, 0, true);
        Check.due("up(1): nothing more to do", x.up(1), 0);
        x = fence();
        x.lock(0, 2, true);
        x.mark(1, true);
        Check.due("up(1): count twice", x.up(1), 2);
        AwakeByHalves empty = new AwakeByHalves();
        Check.due("no acts", empty.up(3), 0);
    }

    private static void pact() {
        AwakeByHalves x = fence();
        x.rule(0, 1, 0);
        x.rule(1, 6, 0);
        x.rule(2, 2, 0);
        Check.due("OWN against LOW", x.pact(0, 1, 3), 1);
        Check.due("KIND against LOW: 8 of 14", x.pact(2, 1, 3), 0);
        // OWN has 10; with count 0 first, KIND of half 1 counts too: 2 and 9
        Check.due("OWN against OWN", x.pact(0, 0, 3), 1);
        Check.due("OWN against KIND: 10 of 11", x.pact(0, 2, 3), 0);
        Check.due("KIND against LOW, a day", x.pact(2, 1, 1), 0);
        x.does(1);
        // half 1 by LOW leaves mark 1 there
        Check.due("LOW of half 1", x.pact(0, 1, 1), 0);
        Check.due("OWN of half 1", x.pact(1, 0, 4), 1);
        Check.due("nothing is changed", x.status(2), 1);
    }

    /** What was looked up once is not told again when worths, locks, acts have changed. */
    private static void changesAreSeen() {
        AwakeByHalves x = fence();
        x.image();
        Check.due("BEST", x.best(3, 0), 10);
        x.likes(0, 1, 20);
        Check.due("a worth", x.best(3, 0), 40);
        x.lock(0, 1, true);
        Check.due("a lock", x.best(3, 0), 6);
        x.act(1, 1, 0, 1, 0, 0);
        Check.due("an act", x.best(3, 0), 40);
        x.back();
        Check.due("back", x.best(3, 0), 10);
        Check.town(x, "likes 0 1 30");
        Check.due("a town", x.best(3, 0), 60);
        x.count(0, 10);
        Check.due("a count", x.best(3, 0), 100);
        x.mark(1, true);
        Check.due("a mark", x.best(1, 0), 52);
    }

    /** An act that was there is gone with back(). */
    private static void goneActs() {
        AwakeByHalves x = fence();
        x.rule(0, 1, 0);
        x.rule(1, 2, 0);
        x.image();
        int[] before = answers(x);
        x.act(3, 7, 0, 1, 0, 0);
        x.likes(0, 7, 90);
        x.likes(1, 7, 80);
        Check.holds("it matters", answers(x)[0] != before[0]);
        x.back();
        int[] behind = answers(x);
        for (int i = 0; i < before.length; i++) {
            Check.due("answer " + i, behind[i], before[i]);
        }
    }

    private static int[] answers(AwakeByHalves x) {
        return new int[] {x.best(4, 0), x.best(4, 1), x.together(4), x.against(0, 4), x.reach(4), x.which(4), x.up(3),
            x.next(0), x.next(1), x.can(0), x.status(4), x.work(128, false), x.run(0, 1, 20, 0)};
    }

    /** Ten acts, all of them for mark or count by their number: nothing looks behind the last. */
    private static void fullTown() {
        AwakeByHalves x = new AwakeByHalves();
        for (int m = 0; m < 8; m++) {
            x.act(1, m, 0, 1, 0, 0);
            x.likes(0, m, m + 1);
        }
        x.act(0, 0, 0, 9, 0, 0);
        x.act(0, 0, 1, 9, 0, 0);
        x.likes(0, 9, 2);
        x.rule(0, 1, 0);
        x.rule(1, 2, 0);
        x.rule(2, 6, 0);
        x.row(3, 0, 2);
        x.set(3, 0, 10);
        x.set(3, 1, 9);
        Check.due("OWN", x.next(0), 9);
        Check.due("KIND", x.next(1), 9);
        Check.due("LOW", x.next(2), 0);
        Check.due("can", x.can(0), 1023);
        Check.due("BEST", x.best(4, 2), 9);
        // half 1, to which nothing is worth anything, does nothing: 18, then 36
        Check.due("gains by BEST", x.best(4, 0), 54);
        Check.due("AGAINST LOW", x.against(2, 3), 18 + 36 + 1);
        Check.due("TOGETHER", x.together(3), 18 + 46);
        Check.due("reach", x.reach(1), 255);
        Check.due("which", x.which(4), -1);
        Check.due("up", x.up(1), 18);
        Check.due("told", x.told(3, 2, 2) + x.judge(3, 2), -1);
        Check.due("run", x.run(0, 2, 3, 0), 18 + 36 + 1);
        x.lock(1, 9, true);
        Check.due("locked", x.status(4), 1);
        x.does(9);
        Check.due("found", x.found(), 512);
        Check.due("days", x.status(2), 1);
        Check.due("counts together, half 1 awake", x.status(3), 9);
    }

    private static void refusals() {
        AwakeByHalves x = fence();
        x.rule(0, 1, 0);
        x.row(1, 0, 0);
        for (int k : new int[] {Integer.MIN_VALUE, -1, 0, 5, Integer.MAX_VALUE}) {
            Check.due("best", x.best(k, 0), -1000002);
            Check.due("against", x.against(0, k), -1000002);
            Check.due("together", x.together(k), -1000002);
            Check.due("harm", x.harm(k), -1000002);
            Check.due("pact", x.pact(0, 0, k), -2);
        }
        Check.due("best what 3", x.best(1, 3), -1000002);
        Check.due("best what -1", x.best(1, -1), -1000002);
        Check.due("against shelf 8", x.against(8, 1), -1000002);
        Check.due("against shelf -1", x.against(-1, 1), -1000002);
        Check.due("against a row", x.against(1, 1), -1000003);
        Check.due("against NOTHING", x.against(2, 1), -1000004);
        Check.due("pact shelf 8", x.pact(8, 0, 1), -2);
        Check.due("pact shelf -1", x.pact(0, -1, 1), -2);
        Check.due("pact OTHER ahead of NOTHING", x.pact(2, 1, 1), -3);
        Check.due("pact NOTHING", x.pact(2, 0, 1), -4);
        Check.due("BAD", x.status(12), 31);
    }
}
