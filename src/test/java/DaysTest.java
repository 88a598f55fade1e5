/** Promises 23 to 31: what is gained, what is done, rules, runs, days in truth, told rows. */
public final class DaysTest {
    public static void main(String[] args) {
        gain();
        does();
        rulesChoose();
        ties();
        turn();
        run();
        lastAct();
        refusedRuns();
        head();
        days();
        judge();
        told();
        Check.end("DaysTest");
    }

    /**
     * 0 MAKE 0, 1 BREAK 0, 2 ACT (count 0, 5 more), 3 TURN 1. Half 0: mark 0 is 10, each of count 0 is 1.
     * Half 1: mark 0 is -20, mark 1 is 7.
     */
    private static AwakeByHalves quarrel() {
        AwakeByHalves x = new AwakeByHalves();
        Check.town(x, "act 1 0 0 1;act 2 0 0 1;act 0 0 0 5;act 3 1 0 1;likes 0 0 10;counts 0 0 1;hates 1 0 20;likes 1 1 7");
        return x;
    }

    private static void gain() {
        AwakeByHalves x = quarrel();
        Check.due("gain(0)", x.gain(0), 10);
        Check.due("gain(1)", x.gain(1), -1000005);
        Check.due("gain(2)", x.gain(2), 5);
        Check.due("gain(3)", x.gain(3), 0);
        Check.due("gain(NONE)", x.gain(-1), 0);
        Check.due("gain(4)", x.gain(4), -1000002);
        Check.due("gain(-2)", x.gain(-2), -1000002);
        Check.due("nothing is changed", x.stands(0) + x.status(2) + x.status(3), 0);
        x.does(0);
        Check.due("of half 1, none", x.gain(-1), -20);
        Check.due("of half 1, BREAK", x.gain(1), 0);
        Check.due("of half 1, TURN", x.gain(3), -13);
        x.lock(1, 1, true);
        Check.due("LOCKED", x.gain(1), -1000005);
        Check.due("BAD", x.status(12), 2);
        Check.due("STUCK", x.status(15), 2);
    }

    private static void does() {
        AwakeByHalves x = quarrel();
        Check.due("does(1)", x.does(1), -5);
        Check.due("does(4)", x.does(4), -2);
        Check.due("does(-2)", x.does(-2), -2);
        Check.due("no day is gone", x.status(2), 0);
        Check.due("does(0)", x.does(0), 1);
        Check.due("half 1 is awake", x.stands(6), 1);
        Check.due("it stands", x.stands(0), 1);
        Check.due("gained by 0", x.gained(0), 10);
        Check.due("gained by 1", x.gained(1), 0);
        Check.due("does(NONE)", x.does(-1), 2);
        Check.due("gained by 1", x.gained(1), -20);
        Check.due("gained by both", x.gained(2), -10);
        Check.due("does(2)", x.does(2), 3);
        Check.due("gained by 0", x.gained(0), 25);
        Check.due("gained(3)", x.gained(3), -1000002);
        Check.due("gained(-1)", x.gained(-1), -1000002);
    }

    private static int says(AwakeByHalves x, int kind, int a) {
        x.rule(7, kind, a);
        return x.next(7);
    }

    private static void rulesChoose() {
        AwakeByHalves x = quarrel();
        Check.due("OWN of 0", says(x, 1, 0), 0);
        Check.due("KIND of 0: 5 is less than 7", says(x, 2, 0), 3);
        Check.due("LOW of 0", says(x, 6, 0), 0);
        Check.due("PACT of 0 from 0 on", says(x, 4, 50), 3);
        Check.due("PACT of 0 from 1 on", says(x, 4, 51), 0);
        Check.due("IDLE of 0, 9", says(x, 5, 9), 0);
        Check.due("IDLE of 0, 10", says(x, 5, 10), -1);
        x.count(0, 4);
        Check.due("IDLE of 0, 9, when VALUE is 4 already", says(x, 5, 9), 0);
        Check.due("IDLE of 0, 10, when VALUE is 4 already", says(x, 5, 10), -1);
        x.count(0, 0);
        x.does(0);
        Check.due("OWN of 1", says(x, 1, 0), 1);
        Check.due("KIND of 1: 0 by BREAK, -3 by TURN, -5 by ACT", says(x, 2, 0), 1);
        Check.due("LOW of 1", says(x, 6, 0), 1);
        x.does(3);
        x.lock(0, 1, true);
        Check.due("LOW of 0, with 0 done and 1 locked", says(x, 6, 0), 2);
        x.count(0, 23);
        Check.due("OWN: nothing is better than none", says(x, 1, 0), -1);
        Check.due("PACT, when VALUE is 33 and a 83", says(x, 4, 83), -1);
        Check.due("IDLE by 0", says(x, 5, 0), -1);
        Check.due("shelf 8", x.next(8), -2);
        Check.due("shelf -1", x.next(-1), -2);
        Check.due("NOTHING", x.next(0), -4);
        x.row(0, 0, 4);
        Check.due("OTHER", x.next(0), -3);
        Check.due("nothing is changed", x.status(2), 2);
    }

    /** Of several as good none comes first, then the act with the lowest number. */
    private static void ties() {
        AwakeByHalves x = new AwakeByHalves();
        Check.town(x, "act 1 0 0 1;act 3 1 0 1;act 1 2 0 1;likes 0 1 4;likes 0 2 4");
        Check.due("OWN", says(x, 1, 0), 1);
        Check.due("KIND", says(x, 2, 0), 1);
        Check.due("TURN of one day", says(x, 3, 0), 1);
        Check.town(x, "likes 0 1 0;likes 0 2 0");
        for (int kind = 1; kind <= 5; kind++) {
            Check.due("kind " + kind, says(x, kind, 0), -1);
        }
        Check.due("LOW", says(x, 6, 0), 0);
        Check.town(x, "hates 0 0 1;hates 0 1 1;hates 0 2 1;locks 0 0");
        Check.due("OWN, all being worse", says(x, 1, 0), -1);
        Check.due("LOW, though worse", says(x, 6, 0), 1);
    }

    /** Mark 0 brings 3 on one day and bars mark 1; 2 readies mark 1, which brings 50 two days on. */
    private static void turn() {
        AwakeByHalves x = new AwakeByHalves();
        Check.town(x, "act 1 0 0 1;act 1 1 0 1 need 2 bar 0;act 1 2 0 1;likes 0 0 3;likes 0 1 50");
        Check.due("BEST of 1", says(x, 3, 0), 0);
        Check.due("BEST of 2", says(x, 3, 1), 0);
        Check.due("BEST of 3", says(x, 3, 2), 2);
        Check.due("BEST of 4", says(x, 3, 3), 2);
        Check.due("a 4 is as 0", says(x, 3, 4), 0);
        Check.due("a 98 is as 2", says(x, 3, 98), 2);
        Check.due("a 99 is as 3", says(x, 3, 99), 2);
    }

    private static void run() {
        AwakeByHalves x = quarrel();
        x.rule(0, 1, 0);
        x.rule(1, 2, 0);
        int[] quarrelling = {20, 0, 0, 4, 1};
        for (int what = 0; what < 5; what++) {
            Check.due("both by OWN, 4 days: " + what, x.run(0, 0, 4, what), quarrelling[what]);
        }
        // KIND turns mark 1, OWN keeps it by none (7), KIND adds 5 (5), OWN again does none (7)
        int[] kind = {5, 14, 2, 2, -1};
        for (int what = 0; what < 5; what++) {
            Check.due("0 by KIND, 1 by OWN, 4 days: " + what, x.run(1, 0, 4, what), kind[what]);
        }
        Check.due("an odd number of days", x.run(0, 0, 3, 2), 1);
        Check.due("no day", x.run(0, 0, 0, 0) + x.run(0, 0, 0, 1) + x.run(0, 0, 0, 2) + x.run(0, 0, 0, 3), 0);
        Check.due("no day, no act", x.run(0, 0, 0, 4), -1);
        Check.due("60 days", x.run(0, 0, 60, 0), 300);
        Check.due("nothing is changed", x.status(2) + x.stands(0) + x.gained(2), 0);
        x.does(0);
        Check.due("from half 1 on", x.run(0, 0, 1, 1), 0);
        Check.due("from half 1 on", x.run(0, 0, 2, 0), 10);
        Check.due("from half 1 on", x.run(0, 0, 2, 4), 0);
    }

    /** What is chosen on the last day: NONE where that is none, though something was done on a day ahead. */
    private static void lastAct() {
        AwakeByHalves x = new AwakeByHalves();
        Check.town(x, "act 1 0 0 1;likes 0 0 5");
        x.rule(0, 1, 0);
        Check.due("one day", x.run(0, 0, 1, 4), 0);
        Check.due("two days", x.run(0, 0, 2, 4), -1);
        Check.due("three days", x.run(0, 0, 3, 4), -1);
        Check.due("60 days", x.run(0, 0, 60, 4), -1);
        Check.due("something was done on", x.run(0, 0, 3, 3), 1);
        x.rule(1, 6, 0);
        x.act(0, 0, 0, 1, 0, 0);
        Check.due("0 by OWN, 1 by LOW, two days", x.run(0, 1, 2, 4), 1);
        Check.due("0 by OWN, 1 by LOW, three days", x.run(0, 1, 3, 4), -1);
        Check.due("0 by OWN, 1 by LOW, four days", x.run(0, 1, 4, 4), 1);
        Check.due("something was done on", x.run(0, 1, 4, 3), 3);
        Check.due("no day behind one with an act", x.run(0, 1, 0, 4), -1);
        x.does(-1);
        Check.due("from half 1 on, by LOW", x.run(0, 1, 1, 4), 0);
        Check.due("from half 1 on, by LOW and OWN", x.run(0, 1, 2, 4), -1);
    }

    private static void refusedRuns() {
        AwakeByHalves x = quarrel();
        x.rule(0, 1, 0);
        x.row(1, 0, 3);
        int[][] bad = {{-1, 0, 1, 0}, {8, 0, 1, 0}, {0, -1, 1, 0}, {0, 8, 1, 0}, {0, 0, -1, 0}, {0, 0, 61, 0},
            {0, 0, 1, -1}, {0, 0, 1, 5}, {1, 2, 61, 0}};
        for (int[] b : bad) {
            Check.due("BAD", x.run(b[0], b[1], b[2], b[3]), -1000002);
        }
        Check.due("OTHER", x.run(1, 0, 1, 0), -1000003);
        Check.due("OTHER ahead of NOTHING", x.run(2, 1, 1, 0), -1000003);
        Check.due("OTHER ahead of NOTHING", x.run(1, 2, 1, 0), -1000003);
        Check.due("NOTHING", x.run(0, 2, 1, 0), -1000004);
        Check.due("NOTHING", x.run(2, 0, 0, 0), -1000004);
        Check.due("days -", x.days(0, 0, 0), -2);
        Check.due("days 21", x.days(0, 0, 21), -2);
        Check.due("days shelf", x.days(8, 0, 1), -2);
        Check.due("days shelf", x.days(0, -1, 1), -2);
        Check.due("days OTHER", x.days(2, 1, 1), -3);
        Check.due("days NOTHING", x.days(0, 2, 1), -4);
        Check.due("head 0 days", x.head(0, 0), -2);
        Check.due("head 61 days", x.head(0, 61), -2);
        Check.due("head shelf", x.head(8, 1), -2);
        Check.due("head shelf", x.head(-1, 1), -2);
        Check.due("head OTHER", x.head(1, 1), -3);
        Check.due("head NOTHING", x.head(2, 1), -4);
        Check.due("nothing is changed", x.status(2), 0);
        Check.due("BAD", x.status(12), bad.length + 8);
        Check.due("OTHER", x.status(13), 5);
        Check.due("NOTHING", x.status(14), 4);
    }

    private static void head() {
        AwakeByHalves x = quarrel();
        x.rule(3, 2, 0);
        Check.due("alone there is that one", x.head(3, 5), 3);
        x.rule(5, 1, 0);
        x.row(0, 0, 4);
        Check.due("OWN gains more", x.head(3, 1), 5);
        x.rule(6, 1, 9);
        Check.due("the first of those", x.head(3, 1), 5);
        x.rule(1, 5, 0);
        Check.due("IDLE by 0 is as OWN", x.head(3, 1), 1);
        // against OWN, KIND lets count 0 grow to 23 unharmed, which in the long run is more than 10 a day
        Check.due("4 days", x.head(5, 4), 1);
        Check.due("60 days", x.head(5, 60), 3);
        x.rule(0, 1, 3);
        Check.due("the first shelf of all", x.head(3, 1), 0);
        x.does(0);
        x.row(0, 0, 4);
        x.rule(1, 6, 0);
        x.rule(2, 2, 0);
        x.mark(0, false);
        // half 1: LOW makes mark 0 (-20), KIND and OWN turn mark 1 (7)
        Check.due("for half 1", x.head(5, 1), 2);
        Check.due("nothing is changed", x.status(2), 1);
    }

    private static void days() {
        AwakeByHalves x = quarrel();
        x.rule(0, 1, 0);
        x.rule(1, 2, 0);
        Check.due("4 days", x.days(1, 0, 4), 4);
        Check.due("gained by 0", x.gained(0), 5);
        Check.due("gained by 1", x.gained(1), 14);
        Check.due("marks", x.stands(0), 2);
        Check.due("count 0", x.stands(2), 5);
        Check.due("the last day was by OWN: none", x.found(), 1024);
        Check.due("1 more", x.days(0, 1, 1), 5);
        Check.due("OWN made mark 0", x.found(), 1);
        Check.due("gained by 0", x.gained(0), 20);
        Check.due("20 more", x.days(0, 0, 20), 25);
        Check.due("half 1 is awake", x.stands(6), 1);
    }

    private static AwakeByHalves tellingOf(int sort, long... acts) {
        AwakeByHalves x = quarrel();
        x.row(4, sort, acts.length);
        for (int i = 0; i < acts.length; i++) {
            x.set(4, i, acts[i]);
        }
        return x;
    }

    private static void judge() {
        AwakeByHalves x = tellingOf(0, 0, 1, 0, -1, 0, 2);
        Check.due("right so far", x.judge(4, 4), -1);
        Check.due("MAKE of what stands", x.judge(4, 5), 4);
        Check.due("the first that is wrong", x.judge(4, 6), 4);
        Check.due("none told", x.judge(4, 0), -1);
        Check.due("more than there are", x.judge(4, 7), -2);
        Check.due("n 21", x.judge(4, 21), -2);
        Check.due("n -1", x.judge(4, -1), -2);
        Check.due("shelf 8", x.judge(8, 1), -2);
        Check.due("NOTHING, though it has fewer", x.judge(0, 20), -4);
        x.rule(0, 1, 0);
        Check.due("OTHER", x.judge(0, 1), -3);
        x.lock(1, 1, true);
        Check.due("LOCKED for half 1", x.judge(4, 4), 1);
        x = tellingOf(3, 4, 99, 1L << 32, Long.MIN_VALUE, 1);
        Check.due("what is no act is none", x.judge(4, 4), -1);
        x.act(0, 0, 0, 9, 0, 0);
        Check.due("4 is one now: 9 on both days", x.told(4, 3, 0), 18);
        x = tellingOf(3, 4, 99, 1L << 32, Long.MIN_VALUE, 1);
        Check.due("gains by none", x.told(4, 4, 0), 0);
        Check.due("BREAK of what doesn't stand", x.judge(4, 5), 4);
        x = tellingOf(4, 0, 7, 0, 1);
        Check.due("booleans are 0 and 1", x.judge(4, 4), -1);
        x = tellingOf(0, 256, 257);
        Check.due("bytes by their lowest bits", x.told(4, 2, 2), 0);
        x = tellingOf(2, 2, 2, 2, 2, 2, 2, 2, 2, 2, 2, 2, 2, 2, 2, 2, 2, 2, 2, 2, 2, 1);
        Check.due("20 told", x.judge(4, 20), -1);
        Check.due("nothing is changed", x.status(2) + x.status(3), 0);
    }

    private static void told() {
        AwakeByHalves x = tellingOf(1, 0, 3, 2, -1, 1, 1);
        Check.due("gains of 0", x.told(4, 4, 0), 25);
        Check.due("gains of 1", x.told(4, 4, 1), -26);
        Check.due("marks", x.told(4, 4, 2), 3);
        Check.due("marks of no day", x.told(4, 0, 2), 0);
        Check.due("gains of one day", x.told(4, 1, 0), 10);
        Check.due("WRONG", x.told(4, 6, 0), -1000005);
        Check.due("right so far", x.told(4, 5, 2), 2);
        Check.due("n 7 of 6", x.told(4, 7, 0), -1000002);
        Check.due("n 21", x.told(4, 21, 0), -1000002);
        Check.due("n -1", x.told(4, -1, 0), -1000002);
        Check.due("what 3", x.told(4, 1, 3), -1000002);
        Check.due("what -1", x.told(4, 1, -1), -1000002);
        Check.due("shelf 8", x.told(8, 1, 0), -1000002);
        Check.due("NOTHING", x.told(0, 1, 0), -1000004);
        x.rule(0, 1, 0);
        Check.due("OTHER", x.told(0, 1, 0), -1000003);
        Check.due("nothing is changed", x.status(2) + x.stands(0) + x.gained(2), 0);
        x.does(0);
        Check.due("from half 1 on, mark 0 standing", x.told(4, 1, 0), -1000005);
        x.set(4, 0, 1);
        Check.due("gains of 1", x.told(4, 1, 1), 0);
        Check.due("gains of 0: none of what was before", x.told(4, 1, 0), 0);
    }
}
