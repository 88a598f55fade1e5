import java.io.IOException;

/** Promises 15 to 31, sentence by sentence: the tape, what is told of a town, and days. */
public final class Promises15To31Test {
    public static void main(String[] args) throws IOException {
        feed();
        wipe();
        town();
        actOf();
        worthOf();
        stands();
        can();
        value();
        gain();
        does();
        next();
        run();
        head();
        days();
        gained();
        judge();
        told();
        Doc.end("Promises15To31Test", "## Promise 15:", "## Promise 32:");
    }

    private static AwakeByHalves of(String text) {
        AwakeByHalves x = new AwakeByHalves();
        Check.town(x, text);
        return x;
    }

    private static void feed() {
        Doc.says("THE TAPE gets one byte (0 to 255) behind it: its size.");
        AwakeByHalves x = new AwakeByHalves();
        Check.due("the least", x.feed(0), 1);
        Check.due("the greatest", x.feed(255), 2);
        x.wipe();
        String text = "mark 5";
        for (int i = 0; i < 250; i++) {
            Check.due("size", x.feed(i < text.length() ? text.charAt(i) : 32), i + 1);
        }
        Doc.says("BAD; FULL.");
        Check.due("FULL", x.feed(32), -6);
        Check.due("-1, ahead of FULL", x.feed(-1), -2);
        Check.due("256, ahead of FULL", x.feed(256), -2);
        Check.due("THE TAPE is as it was", x.status(5), 250);
        Check.due("and is read so", x.town(), 1);
        Check.due("-1", x.feed(-1), -2);
        Check.due("256", x.feed(256), -2);
        Check.due("a byte and more", x.feed(256 + 32), -2);
        Check.due("there is room again", x.feed(32), 1);
    }

    private static void wipe() {
        Doc.says("THE TAPE is empty: its size ahead.");
        AwakeByHalves x = new AwakeByHalves();
        Check.due("it was empty", x.wipe(), 0);
        x.feed(1);
        Check.due("one byte", x.wipe(), 1);
        Check.due("it is empty", x.status(5), 0);
        for (int i = 0; i < 251; i++) {
            x.feed(97);
        }
        Check.due("250 bytes", x.wipe(), 250);
        Check.due("and none", x.wipe(), 0);
        Check.due("nothing is left of it", Check.town(x, "mark 1"), 1);
    }

    private static void town() {
        Doc.says("THE TAPE is a TOWN: how many STATEMENTS;");
        AwakeByHalves x = new AwakeByHalves();
        Check.due("one", Check.town(x, "mark 1"), 1);
        Check.due("two", Check.town(x, "mark 2;act 0 0 0 1 need 1 need 2 bar 3"), 2);
        Check.due("41", Check.town(x, "mark0;".repeat(40) + "mark0"), 41);
        Doc.says("-20 less the FAULT (that is refused, too: BAD).");
        Check.due("the FAULT at 0", Check.town(x, ""), -20);
        Check.due("the FAULT at 5", Check.town(x, "mark 8"), -25);
        Check.due("the FAULT at 250", Check.town(x, " ".repeat(250)), -270);
        Check.due("BAD, three times", x.status(12), 3);
        Check.due("no other", x.status(13) + x.status(14) + x.status(15) + x.status(16), 0);
        Doc.says("THE TAPE is empty then, either way.");
        Check.town(x, "mark 1");
        Check.due("behind a TOWN", x.status(5), 0);
        Check.due("there is nothing to be read again", x.town(), -20);
        Check.town(x, "mark 8");
        Check.due("behind a FAULT", x.status(5), 0);
        Check.due("a byte", x.feed(32), 1);
    }

    private static void actOf() {
        Doc.says("Of an ACT: KIND (0), MARK (1), COUNT (2), NUMBER (3), NEEDS (4), BARS (5), HALVES for which it is LOCKED"
            + " (6, bits).");
        AwakeByHalves x = of("act 0 0 0 1;act 5 7 3 9 need 0 need 7 bar 1 bar 6;locks 0 1");
        int[][] want = {{0, 0, 0, 1, 0, 0, 0}, {5, 7, 3, 9, 129, 66, 1}};
        for (int i = 0; i < 14; i++) {
            Check.due("actOf(" + i / 7 + ", " + i % 7 + ")", x.actOf(i / 7, i % 7), want[i / 7][i % 7]);
        }
        x.lock(1, 1, true);
        Check.due("LOCKED for both", x.actOf(1, 6), 3);
        x.lock(0, 1, false);
        Check.due("LOCKED for HALF 1", x.actOf(1, 6), 2);
        Doc.says("BAD.");
        Check.due("ACT -1", x.actOf(-1, 0), -2);
        Check.due("ACT 2 of two", x.actOf(2, 0), -2);
        Check.due("what -1", x.actOf(0, -1), -2);
        Check.due("what 7", x.actOf(0, 7), -2);
        Check.due("no ACTS", new AwakeByHalves().actOf(0, 0), -2);
    }

    private static void worthOf() {
        Doc.says("WORTH as likes() tells it.");
        AwakeByHalves x = new AwakeByHalves();
        int[][] all = {{0, 0, 99}, {0, 7, -99}, {1, 0, -98}, {1, 7, 98}, {0, 8, 9}, {0, 11, -9}, {1, 8, -8}, {1, 11, 8}};
        for (int[] one : all) {
            Check.due("at first", x.worthOf(one[0], one[1]), 0);
            x.likes(one[0], one[1], one[2]);
        }
        for (int[] one : all) {
            Check.due("worthOf(" + one[0] + ", " + one[1] + ")", x.worthOf(one[0], one[1]), one[2]);
        }
        Doc.says("-1000002.");
        Check.due("HALF -1", x.worthOf(-1, 0), -1000002);
        Check.due("HALF 2", x.worthOf(2, 0), -1000002);
        Check.due("what -1", x.worthOf(1, -1), -1000002);
        Check.due("what 12", x.worthOf(0, 12), -1000002);
        Check.due("BAD", x.status(12), 4);
    }

    private static void stands() {
        Doc.says("MARKS that stand (bits; what 0), HIDDEN (1), COUNTS 0 to 3 (2 to 5), the HALF that is awake (6).");
        AwakeByHalves x = of("mark 0;mark 7;hides 1;hides 6;count 0 20;count 1 21;count 2 22;count 3 23");
        int[] want = {129, 66, 20, 21, 22, 23, 0};
        for (int what = 0; what < 7; what++) {
            Check.due("stands(" + what + ")", x.stands(what), want[what]);
        }
        x.does(-1);
        Check.due("HALF 1", x.stands(6), 1);
        Check.due("all else as it was", x.stands(0) + x.stands(5), 129 + 23);
        Doc.says("BAD.");
        Check.due("what -1", x.stands(-1), -2);
        Check.due("what 7", x.stands(7), -2);
    }

    private static void can() {
        Doc.says("ACTS (bits) that CAN be done by a HALF now.");
        AwakeByHalves x = new AwakeByHalves();
        Check.due("no ACTS", x.can(0), 0);
        for (int a = 0; a < 10; a++) {
            x.act(0, 0, 0, 1, 0, 0);
        }
        Check.due("all ten", x.can(0), 1023);
        Check.due("all ten by HALF 1, which sleeps", x.can(1), 1023);
        x.lock(1, 9, true);
        Check.due("by HALF 0", x.can(0), 1023);
        Check.due("by HALF 1", x.can(1), 511);
        x.does(-1);
        Check.due("whoever is awake", x.can(0), 1023);
        x = of("act 1 0 0 1;act 2 0 0 1");
        Check.due("now", x.can(0), 1);
        x.does(0);
        Check.due("and then", x.can(0), 2);
        Doc.says("BAD.");
        Check.due("HALF -1", x.can(-1), -2);
        Check.due("HALF 2", x.can(2), -2);
    }

    private static void value() {
        Doc.says("VALUE to a HALF.");
        AwakeByHalves x = of("mark 3;count 2 23;likes 0 3 99;costs 0 2 9;hates 1 3 99;counts 1 2 9;hides 3");
        Check.due("HALF 0", x.value(0), 99 - 207);
        Check.due("HALF 1, though it can't see MARK 3", x.value(1), 207 - 99);
        x.mark(3, false);
        Check.due("HALF 0 without MARK 3", x.value(0), -207);
        Doc.says("-1000002.");
        Check.due("HALF -1", x.value(-1), -1000002);
        Check.due("HALF 2", x.value(2), -1000002);
        Check.due("BAD", x.status(12), 2);
    }

    private static void gain() {
        Doc.says("What the HALF that is awake would GAIN today by an ACT (NONE, too).");
        AwakeByHalves x = of("act 1 0 0 1;act 0 0 0 9;act 4 1 0 9;count 0 15;hates 0 0 99;counts 0 0 2;likes 1 0 7;counts 1 0 1");
        Check.due("NONE", x.gain(-1), 30);
        Check.due("it may be below 0", x.gain(0), -69);
        Check.due("no more than 23", x.gain(1), 46);
        Check.due("FILL", x.gain(2), 12);
        Check.due("nothing is done", x.status(2) + x.stands(0) + x.gained(2), 0);
        x.does(0);
        Check.due("HALF 1, NONE", x.gain(-1), 22);
        Check.due("HALF 1, ACT", x.gain(1), 30);
        Doc.says("-1000002; -1000005: it CAN'T be.");
        Check.due("ACT -2", x.gain(-2), -1000002);
        Check.due("ACT 3 of three", x.gain(3), -1000002);
        Check.due("MAKE of what stands", x.gain(0), -1000005);
        x.lock(1, 1, true);
        Check.due("LOCKED", x.gain(1), -1000005);
        x.does(-1);
        Check.due("but not for HALF 0", x.gain(1), 46 - 99);
        Check.due("no ACTS", new AwakeByHalves().gain(0), -1000002);
        Check.due("no ACTS, NONE", new AwakeByHalves().gain(-1), 0);
    }

    private static void does() {
        Doc.says("The HALF that is awake does an ACT (NONE: none); the DAY is over: DAYS gone by.");
        AwakeByHalves x = of("act 3 0 0 1;act 0 0 3 9");
        Check.due("none", x.does(-1), 1);
        Check.due("nothing was done", x.stands(0) + x.status(3), 0);
        Check.due("the first", x.does(0), 2);
        Check.due("it is done", x.stands(0), 1);
        Check.due("the last", x.does(1), 3);
        Check.due("it is done", x.stands(5), 9);
        Check.due("DAYS gone by", x.status(2), 3);
        Check.due("no ACTS, none", new AwakeByHalves().does(-1), 1);
        Doc.says("BAD; STUCK: it CAN'T be.");
        x.lock(1, 0, true);
        Check.due("ACT -2", x.does(-2), -2);
        Check.due("ACT 2 of two", x.does(2), -2);
        Check.due("LOCKED for HALF 1", x.does(0), -5);
        Check.due("no DAY is over", x.status(2), 3);
        Check.due("HALF 1 is awake still", x.stands(6), 1);
        Check.due("nothing is done", x.stands(0), 1);
        Check.due("nothing is GAINED", x.gained(2), 0);
        x.does(-1);
        Check.due("HALF 0 CAN", x.does(0), 5);
    }

    private static void next() {
        Doc.says("The ACT that the RULE in SHELF s says now; NONE.");
        AwakeByHalves x = of("act 1 0 0 1;act 1 1 0 1;likes 0 1 5;likes 1 0 5");
        x.rule(0, 1, 0);
        x.rule(7, 6, 0);
        Check.due("OWN of HALF 0", x.next(0), 1);
        Check.due("LOW", x.next(7), 0);
        Check.due("nothing is done by it", x.status(2) + x.stands(0), 0);
        x.does(1);
        Check.due("OWN of HALF 1", x.next(0), 0);
        x.does(0);
        Check.due("NONE", x.next(0), -1);
        Check.due("NONE", x.next(7), -1);
        Doc.says("BAD; OTHER; NOTHING.");
        x.row(1, 0, 1);
        Check.due("SHELF -1", x.next(-1), -2);
        Check.due("SHELF 8", x.next(8), -2);
        Check.due("a ROW", x.next(1), -3);
        Check.due("NOTHING", x.next(2), -4);
        Check.due("NONE was not refused", x.status(12) + x.status(13) + x.status(14) + x.status(15), 4);
    }

    /** COUNT 0 grows by 1 a DAY to 23; each of it is 1 to HALF 0, 2 to HALF 1. */
    private static AwakeByHalves pond() {
        AwakeByHalves x = of("act 0 0 0 1;counts 0 0 1;counts 1 0 2");
        x.rule(0, 1, 0);
        x.rule(1, 6, 0);
        x.row(2, 0, 1);
        return x;
    }

    private static void run() {
        Doc.says("A RUN of n DAYS, HALF 0 by the RULE in SHELF s, HALF 1 by that in t: GAINS of HALF 0 (what 0), of HALF 1 (1);"
            + " MARKS at its end (2); how many DAYS something was done (3); the last ACT (4; NONE).");
        AwakeByHalves x = pond();
        int[][] want = {{0, 0, 0, 0, 0, -1}, {1, 1, 0, 0, 1, 0}, {2, 1, 4, 0, 2, 0}, {23, 144, 264, 0, 23, 0},
            {24, 144, 310, 0, 23, -1}, {60, 144 + 18 * 23, 264 + 19 * 46, 0, 23, -1}};
        for (int[] w : want) {
            for (int what = 0; what < 5; what++) {
                Check.due(w[0] + " DAYS, what " + what, x.run(0, 0, w[0], what), w[1 + what]);
            }
        }
        Check.due("HALF 1 by LOW on the last of 60 DAYS", x.run(0, 1, 60, 4), 0);
        Check.due("HALF 0 by LOW, not on the last", x.run(1, 0, 60, 4), -1);
        Check.due("both by LOW", x.run(1, 1, 60, 3), 60);
        Check.due("no DAY behind these", x.run(1, 1, 0, 3), 0);
        Check.due("no ACT behind these", x.run(1, 1, 0, 4), -1);
        x = of("act 3 0 0 1;act 3 7 0 1;mark 3;locks 0 1;locks 1 0");
        x.rule(6, 6, 0);
        x.rule(7, 1, 0);
        int[] marks = {8, 9, 137, 136, 8};
        for (int n = 0; n <= 4; n++) {
            Check.due("MARKS behind " + n, x.run(6, 6, n, 2), marks[n]);
        }
        Check.due("HALF 1 alone does something", x.run(7, 6, 3, 2), 136);
        Check.due("HALF 0 alone does something", x.run(6, 7, 3, 2), 8);
        x.does(-1);
        Check.due("HALF 1 is the first now", x.run(7, 6, 1, 4), 1);
        Check.due("HALF 0 does none on the second", x.run(7, 6, 2, 4), -1);
        runRefused();
    }

    private static void runRefused() {
        Doc.says("-1000002; -1000003; -1000004.");
        AwakeByHalves x = pond();
        int[][] bad = {{-1, 0, 1, 0}, {8, 0, 1, 0}, {0, -1, 1, 0}, {0, 8, 1, 0}, {0, 0, -1, 0}, {0, 0, 61, 0}, {0, 0, 1, -1},
            {0, 0, 1, 5}, {2, 3, 61, 0}, {3, 2, 1, 5}, {8, 2, 1, 0}};
        for (int[] b : bad) {
            Check.due("BAD", x.run(b[0], b[1], b[2], b[3]), -1000002);
        }
        Check.due("OTHER in s", x.run(2, 0, 1, 0), -1000003);
        Check.due("OTHER in t", x.run(0, 2, 1, 0), -1000003);
        Check.due("OTHER in s, ahead of NOTHING in t", x.run(2, 3, 1, 0), -1000003);
        Check.due("OTHER in t, ahead of NOTHING in s", x.run(3, 2, 1, 0), -1000003);
        Check.due("NOTHING in s", x.run(3, 0, 1, 0), -1000004);
        Check.due("NOTHING in t, of no DAY", x.run(0, 3, 0, 4), -1000004);
    }

    private static void head() {
        Doc.says("The SHELF with the RULE by which the HALF that is awake GAINS most in n DAYS (1 to 60), the other one by that"
            + " in SHELF t; of several the first.");
        AwakeByHalves x = of("act 1 0 0 1;act 1 1 0 1;likes 0 0 5;likes 0 1 3;likes 1 1 4;hates 1 0 1");
        x.rule(7, 2, 0);
        Check.due("the only one, t itself", x.head(7, 1), 7);
        Check.due("60 DAYS", x.head(7, 60), 7);
        x.rule(5, 1, 0);
        x.rule(6, 6, 0);
        x.row(0, 0, 40);
        Check.due("OWN and LOW GAIN 5, KIND 3: the first", x.head(7, 1), 5);
        x.rule(3, 6, 0);
        Check.due("LOW, which is first now", x.head(7, 1), 3);
        x.rule(0, 2, 0);
        Check.due("a worse one ahead of it", x.head(7, 1), 3);
        x.does(-1);
        // HALF 1: KIND and OWN make MARK 1 (4), LOW makes MARK 0 (-1)
        Check.due("HALF 1 is awake", x.head(3, 1), 0);
        x.row(0, 0, 1);
        Check.due("a ROW is none", x.head(3, 1), 5);
        x = of("act 1 1 0 1;mark 0;hates 0 0 99;hates 0 1 98;hates 1 0 99;hates 1 1 98");
        x.rule(2, 6, 0);
        Check.due("all GAINS below 0", x.head(2, 60), 2);
        x.rule(4, 1, 0);
        Check.due("the least loss", x.head(4, 60), 4);
        Check.due("nothing is changed", x.status(2) + x.stands(0) + x.gained(2), 1);
        headByTheOther();
    }

    /** Alone HALF 0 GAINS by LOW as by OWN; with HALF 1 by LOW, which breaks what OWN makes, the two part. */
    private static void headByTheOther() {
        AwakeByHalves x = of("act 2 0 0 1;act 1 0 0 1;act 1 1 0 1;likes 0 0 5;likes 0 1 4;locks 0 0");
        x.rule(0, 5, 4);
        x.rule(1, 1, 0);
        x.rule(2, 6, 0);
        // IDLE by 4 makes MARK 0 (5), then by 4 more it does none; OWN makes MARK 1, too
        Check.due("the other by OWN, 3 DAYS: 5 and 9 by OWN", x.head(1, 3), 1);
        // LOW breaks MARK 0 each time: IDLE and OWN make it again: 5 and 5
        Check.due("the other by LOW, 3 DAYS: 5 and 5, whoever", x.head(2, 3), 0);
        Doc.says("BAD; OTHER; NOTHING.");
        x.row(3, 0, 1);
        Check.due("SHELF -1", x.head(-1, 1), -2);
        Check.due("SHELF 8", x.head(8, 1), -2);
        Check.due("0 DAYS", x.head(0, 0), -2);
        Check.due("61 DAYS", x.head(0, 61), -2);
        Check.due("0 DAYS, ahead of OTHER", x.head(3, 0), -2);
        Check.due("61 DAYS, ahead of NOTHING", x.head(4, 61), -2);
        Check.due("a ROW", x.head(3, 1), -3);
        Check.due("NOTHING", x.head(4, 1), -4);
    }

    private static void days() {
        Doc.says("n DAYS (1 to 20) in truth: HALF 0 by the RULE in SHELF s, HALF 1 by that in t: DAYS gone by.");
        AwakeByHalves x = pond();
        Check.due("one", x.days(0, 1, 1), 1);
        Check.due("COUNT 0", x.stands(2), 1);
        Check.due("HALF 0", x.gained(0), 1);
        Check.due("HALF 1 is awake", x.stands(6), 1);
        Check.due("20", x.days(0, 1, 20), 21);
        Check.due("COUNT 0", x.stands(2), 21);
        Check.due("HALF 0: 1, 3, .. 21", x.gained(0), 121);
        Check.due("HALF 1: twice 2, 4, .. 20", x.gained(1), 220);
        Check.due("the last was ACT 0", x.found(), 1);
        x.rule(3, 5, 99);
        Check.due("HALF 1 by IDLE, HALF 0 by LOW", x.days(1, 3, 2), 23);
        Check.due("COUNT 0", x.stands(2), 22);
        Check.due("the last was ACT 0 by HALF 0", x.found(), 1);
        Check.due("one by IDLE", x.days(1, 3, 1), 24);
        Check.due("the last was none", x.found(), 1024);
        Doc.says("BAD; OTHER; NOTHING.");
        int[][] bad = {{-1, 0, 1}, {8, 0, 1}, {0, -1, 1}, {0, 8, 1}, {0, 0, 0}, {0, 0, 21}, {0, 0, -1}, {2, 4, 0}, {4, 4, 21}};
        for (int[] b : bad) {
            Check.due("BAD", x.days(b[0], b[1], b[2]), -2);
        }
        Check.due("OTHER in s", x.days(2, 0, 1), -3);
        Check.due("OTHER in t, ahead of NOTHING in s", x.days(4, 2, 1), -3);
        Check.due("NOTHING in s", x.days(4, 0, 1), -4);
        Check.due("NOTHING in t", x.days(0, 4, 1), -4);
        Check.due("no DAY went by", x.status(2), 24);
        Check.due("nor was anything GAINED", x.gained(2), 121 + 220 + 42 + 22 + 44);
    }

    private static void gained() {
        Doc.says("So far in truth: GAINS of a HALF (0, 1), both (2).");
        AwakeByHalves x = of("mark 0;hates 0 0 99;likes 1 0 98");
        for (int what = 0; what <= 2; what++) {
            Check.due("no DAY yet", x.gained(what), 0);
        }
        x.does(-1);
        x.does(-1);
        x.does(-1);
        Check.due("HALF 0", x.gained(0), -198);
        Check.due("HALF 1", x.gained(1), 98);
        Check.due("both", x.gained(2), -100);
        x.rule(0, 1, 0);
        x.run(0, 0, 60, 0);
        x.best(4, 0);
        x.leap();
        Check.due("nothing but what was in truth", x.gained(2), -100);
        Doc.says("-1000002.");
        Check.due("what -1", x.gained(-1), -1000002);
        Check.due("what 3", x.gained(3), -1000002);
        Check.due("BAD", x.status(12), 2);
    }

    private static void judge() {
        Doc.says("A told ROW of n ACTS (0 to 20) in SHELF s: where it is WRONG; NONE.");
        AwakeByHalves x = of("act 3 0 0 1;act 2 0 0 1;act 2 1 0 1;likes 0 0 3;likes 1 0 2");
        x.row(0, 0, 40);
        x.set(0, 19, 2);
        x.set(0, 20, 2);
        Check.due("none told", x.judge(0, 0), -1);
        Check.due("19, all right", x.judge(0, 19), -1);
        Check.due("20, WRONG at the last", x.judge(0, 20), 19);
        x.set(0, 19, -1);
        Check.due("20, none on the last", x.judge(0, 20), -1);
        x.set(0, 0, 1);
        Check.due("WRONG at the first", x.judge(0, 20), 0);
        x.set(0, 0, -1);
        x.set(0, 2, 1);
        Check.due("BREAK behind TURN is right, then none", x.judge(0, 3), -1);
        Check.due("nothing is changed", x.status(2) + x.stands(0) + x.gained(2), 0);
        x.row(1, 0, 0);
        Check.due("a ROW of none, none told", x.judge(1, 0), -1);
        Doc.says("BAD SHELF, n; OTHER; NOTHING; BAD: fewer elements.");
        x.rule(2, 1, 0);
        x.row(4, 0, 19);
        Check.due("SHELF -1", x.judge(-1, 0), -2);
        Check.due("SHELF 8", x.judge(8, 0), -2);
        Check.due("n -1", x.judge(0, -1), -2);
        Check.due("n 21", x.judge(0, 21), -2);
        Check.due("n 21, ahead of OTHER", x.judge(2, 21), -2);
        Check.due("n -1, ahead of NOTHING", x.judge(3, -1), -2);
        Check.due("a RULE", x.judge(2, 0), -3);
        Check.due("NOTHING", x.judge(3, 0), -4);
        Check.due("NOTHING, of 20", x.judge(3, 20), -4);
        Check.due("20 of 19", x.judge(4, 20), -2);
        Check.due("19 of 19", x.judge(4, 19), -1);
        Check.due("1 of none", x.judge(1, 1), -2);
    }

    private static void told() {
        Doc.says("GAINS by it of a HALF (what 0, 1), MARKS behind it (2).");
        AwakeByHalves x = of("act 3 0 0 1;act 2 1 0 1;mark 7;likes 0 0 3;hates 0 7 1;likes 1 0 2");
        x.row(0, 0, 40);
        x.set(0, 1, -1);
        // made (2), none (2), broken (-1), made (2)
        int[][] want = {{0, 0, 0, 128}, {1, 2, 0, 129}, {2, 2, 2, 129}, {3, 1, 2, 128}, {4, 1, 4, 129}};
        for (int[] w : want) {
            for (int what = 0; what < 3; what++) {
                Check.due(w[0] + " told, what " + what, x.told(0, w[0], what), w[1 + what]);
            }
        }
        Check.due("20 told", x.told(0, 20, 2), 129);
        Check.due("nothing is changed", x.status(2) + x.stands(0) + x.gained(2), 128);
        Doc.says("-1000002; -1000003; -1000004; -1000005: it is WRONG.");
        x.rule(2, 1, 0);
        x.row(4, 0, 2);
        x.set(4, 0, 1);
        int[][] bad = {{-1, 0, 0}, {8, 0, 0}, {0, -1, 0}, {0, 21, 0}, {0, 0, -1}, {0, 0, 3}, {2, 21, 0}, {3, 0, 3}, {4, 3, 0}};
        for (int[] b : bad) {
            Check.due("BAD", x.told(b[0], b[1], b[2]), -1000002);
        }
        Check.due("a RULE", x.told(2, 0, 0), -1000003);
        Check.due("NOTHING", x.told(3, 0, 0), -1000004);
        Check.due("WRONG", x.told(4, 1, 0), -1000005);
        Check.due("WRONG, MARKS, too", x.told(4, 2, 2), -1000005);
        Check.due("not WRONG yet", x.told(4, 0, 2), 128);
    }
}
