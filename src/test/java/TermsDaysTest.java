import java.io.IOException;

/** The document's Terms, 2: what can be done, what it does, what it is worth, and rules, sentence by sentence. */
public final class TermsDaysTest {
    public static void main(String[] args) throws IOException {
        canByLocksNeedsBars();
        canByKind();
        does();
        value();
        aDay();
        gains();
        rulesHaveA();
        ties();
        rule();
        own();
        kind();
        turn();
        pact();
        idle();
        low();
        run();
        Doc.end("TermsDaysTest", "==== 2. DAYS", "==== 3. WHAT CAN BE");
    }

    private static AwakeByHalves of(String text) {
        AwakeByHalves x = new AwakeByHalves();
        Check.town(x, text);
        return x;
    }

    private static void canByLocksNeedsBars() {
        Doc.says("An ACT CAN be done by a HALF, if it isn't LOCKED for it, all NEEDS stand, none of BARS does, and by KIND:");
        AwakeByHalves x = new AwakeByHalves();
        x.act(0, 0, 0, 1, 255, 0);
        x.act(0, 0, 0, 1, 0, 255);
        x.act(0, 0, 0, 1, 4, 4);
        Check.due("no NEEDS stand, no BARS", x.can(0), 2);
        for (int m = 0; m < 8; m++) {
            x.mark(m, true);
            Check.due("MARKS 0 to " + m + " stand", x.can(0), m == 7 ? 1 : 0);
        }
        for (int m = 0; m < 8; m++) {
            x.mark(m, false);
            Check.due("all but MARK " + m + " stand", x.can(0), 0);
            x.mark(m, true);
        }
        x.lock(1, 0, true);
        Check.due("LOCKED for the other HALF", x.can(0), 1);
        Check.due("LOCKED for HALF 1", x.can(1), 0);
        x.lock(0, 0, true);
        Check.due("LOCKED for both", x.can(0), 0);
        x.lock(1, 0, false);
        Check.due("for HALF 1 no more", x.can(1), 1);
    }

    /** Whether an ACT of a KIND on MARK 2 and 9 of COUNT 1 CAN be, by both HALVES. */
    private static void can(int kind, boolean stands, int have, boolean is) {
        AwakeByHalves x = new AwakeByHalves();
        x.act(kind, 2, 1, 9, 0, 0);
        x.mark(2, stands);
        x.count(1, have);
        String what = "KIND " + kind + ", MARK " + stands + ", COUNT " + have;
        Check.due(what, x.can(0), is ? 1 : 0);
        Check.due(what + ", HALF 1", x.can(1), is ? 1 : 0);
        Check.due(what + ", does(0)", x.does(0), is ? 1 : -5);
    }

    private static void canByKind() {
        Doc.says("ACT: no more is asked.");
        can(0, false, 0, true);
        can(0, true, 15, true);
        can(0, true, 23, true);
        Doc.says("MAKE: m doesn't stand.");
        can(1, false, 0, true);
        can(1, false, 23, true);
        can(1, true, 0, false);
        Doc.says("BREAK: m stands.");
        can(2, true, 0, true);
        can(2, true, 23, true);
        can(2, false, 23, false);
        Doc.says("TURN: no more.");
        can(3, false, 0, true);
        can(3, true, 0, true);
        can(3, true, 23, true);
        Doc.says("FILL: as MAKE, and COUNT c is n at least.");
        can(4, false, 0, false);
        can(4, false, 8, false);
        can(4, false, 9, true);
        can(4, false, 23, true);
        can(4, true, 9, false);
        Doc.says("DRAIN: as BREAK, and COUNT c and n are 23 at most.");
        can(5, true, 0, true);
        can(5, true, 14, true);
        can(5, true, 15, false);
        can(5, true, 23, false);
        can(5, false, 14, false);
    }

    /** What an ACT of a KIND on MARK 2 and 9 of COUNT 1 leaves, MARKS 0, 7 and 5 of the other COUNTS being there. */
    private static void leaves(int kind, boolean stands, int have, boolean standsThen, int haveThen) {
        AwakeByHalves x = of("act " + kind + " 2 1 9;mark 0;mark 7;count 0 5;count 2 5;count 3 5");
        x.mark(2, stands);
        x.count(1, have);
        String what = "KIND " + kind + ", MARK " + stands + ", COUNT " + have;
        x.does(0);
        Check.due(what + ": MARKS", x.stands(0), 129 + (standsThen ? 4 : 0));
        Check.due(what + ": COUNT", x.stands(3), haveThen);
        Check.due(what + ": COUNTS", x.status(3), 15 + haveThen);
    }

    private static void does() {
        Doc.says("What it does: ACT: COUNT c is n more (23 at most).");
        leaves(0, false, 0, false, 9);
        leaves(0, true, 14, true, 23);
        leaves(0, true, 15, true, 23);
        leaves(0, false, 23, false, 23);
        Doc.says("MAKE: m stands.");
        leaves(1, false, 0, true, 0);
        leaves(1, false, 23, true, 23);
        Doc.says("BREAK: m doesn't.");
        leaves(2, true, 0, false, 0);
        leaves(2, true, 23, false, 23);
        Doc.says("TURN: m stands, if it didn't, and the other way about.");
        leaves(3, false, 0, true, 0);
        leaves(3, true, 23, false, 23);
        Doc.says("FILL: as MAKE, and COUNT c is n less.");
        leaves(4, false, 9, true, 0);
        leaves(4, false, 23, true, 14);
        Doc.says("DRAIN: as BREAK, and COUNT c is n more.");
        leaves(5, true, 0, false, 9);
        leaves(5, true, 14, false, 23);
    }

    private static void value() {
        Doc.says("VALUE of the town to a HALF: the sum of WORTHS of MARKS that stand, and of COUNTS times theirs.");
        AwakeByHalves x = new AwakeByHalves();
        Check.due("nothing is worth anything", x.value(0) + x.value(1), 0);
        for (int what = 0; what < 12; what++) {
            x.likes(0, what, what < 8 ? 99 : 9);
            x.likes(1, what, what < 8 ? -99 : -9);
        }
        Check.due("nothing is there", x.value(0), 0);
        Check.due("nothing is there", x.value(1), 0);
        x.mark(7, true);
        x.count(3, 2);
        Check.due("one MARK, 2 of a COUNT", x.value(0), 99 + 18);
        for (int m = 0; m < 8; m++) {
            x.mark(m, true);
            x.count(m % 4, 23);
        }
        Check.due("the most there can be", x.value(0), 8 * 99 + 4 * 23 * 9);
        Check.due("the least there can be", x.value(1), -8 * 99 - 4 * 23 * 9);
    }

    private static void aDay() {
        Doc.says("On a DAY the HALF that is awake does one ACT that CAN be, or none (NONE);");
        AwakeByHalves x = of("act 1 0 0 1;act 1 1 0 1;locks 0 1;locks 1 0");
        Check.due("HALF 0 can't do what is LOCKED for it", x.does(1), -5);
        Check.due("HALF 0 does", x.does(0), 1);
        Check.due("HALF 1 can't do what HALF 0 could", x.does(0), -5);
        Check.due("HALF 1 does", x.does(1), 2);
        Check.due("both stand", x.stands(0), 3);
        Check.due("nothing more CAN be", x.can(0) + x.can(1), 0);
        Check.due("none", x.does(-1), 3);
        Check.due("nothing was done", x.stands(0) + x.status(3), 3);
    }

    private static void gains() {
        Doc.says("then it GAINS VALUE to it (may be below 0), the DAY is over, the other one is awake.");
        AwakeByHalves x = of("act 1 0 0 1;hates 0 0 99;hates 1 0 98");
        Check.due("DAYS gone by", x.does(0), 1);
        Check.due("HALF 0 GAINS by what stands behind the ACT", x.gained(0), -99);
        Check.due("HALF 1 nothing", x.gained(1), 0);
        Check.due("HALF 1 is awake", x.stands(6), 1);
        x.does(-1);
        Check.due("HALF 1 GAINS by none, too", x.gained(1), -98);
        Check.due("HALF 0 no more", x.gained(0), -99);
        Check.due("HALF 0 is awake", x.stands(6), 0);
        farthestGains();
    }

    /** The least that 512 calls can bring, far below what a refusal answers. */
    private static void farthestGains() {
        AwakeByHalves x = new AwakeByHalves();
        for (int i = 0; i < 24; i++) {
            x.likes(i / 12, i % 12, i % 12 < 8 ? -99 : -9);
            x.mark(i % 8, true);
            x.count(i % 4, 23);
        }
        x.rule(0, 1, 0);
        for (int calls = 73; calls < 509; calls++) {
            x.days(0, 0, 20);
        }
        Check.due("DAYS", x.status(2), 436 * 20);
        Check.due("HALF 1", x.gained(1), -1620 * 436 * 10);
        Check.due("both", x.gained(2), -1620 * 436 * 20);
    }

    private static void rulesHaveA() {
        Doc.says("RULES have a KIND and a (0 to 99) and say an ACT, or none, for the HALF that is awake;");
        AwakeByHalves x = of("act 1 0 0 1;act 1 1 0 1;likes 0 0 5;likes 1 1 5");
        for (int kind = 1; kind <= 6; kind++) {
            Check.due("a 0", x.rule(0, kind, 0), 1);
            Check.due("it is so", x.says(0, 0), 0);
            Check.due("a -1", x.rule(0, kind, -1), -2);
            Check.due("a 100", x.rule(0, kind, 100), -2);
            Check.due("a is as it was", x.says(0, 0), 0);
            Check.due("a 99", x.rule(0, kind, 99), 1);
            Check.due("it is so", x.says(0, 0), 99);
        }
        x.rule(0, 1, 0);
        Check.due("for HALF 0", x.next(0), 0);
        x.does(-1);
        Check.due("for HALF 1", x.next(0), 1);
        x.does(1);
        x.does(-1);
        Check.due("for HALF 1, none", x.next(0), -1);
    }

    private static int next(AwakeByHalves x, int kind, int a) {
        x.rule(7, kind, a);
        return x.next(7);
    }

    private static void ties() {
        Doc.says("of several as good none ahead of ACTS, these by numbers:");
        AwakeByHalves x = of("act 1 0 0 1;act 1 1 0 1;act 3 2 0 1;act 3 3 0 1");
        for (int kind = 1; kind <= 5; kind++) {
            Check.due("none ahead of ACTS, KIND " + kind, next(x, kind, 0), -1);
        }
        Check.town(x, "likes 0 1 4;likes 0 2 4;likes 0 3 4");
        for (int kind = 1; kind <= 5; kind++) {
            Check.due("ACTS by numbers, KIND " + kind, next(x, kind, 0), 1);
        }
        x.lock(0, 1, true);
        for (int kind = 1; kind <= 5; kind++) {
            Check.due("the first that CAN be, KIND " + kind, next(x, kind, 0), 2);
        }
    }

    private static void rule() {
        Doc.says("0 RULE;");
        AwakeByHalves x = new AwakeByHalves();
        Check.due("no RULE is of that KIND alone", x.rule(0, 0, 0), -2);
        Check.due("SHELF 0", x.holds(0), -1);
        x.rule(0, 6, 7);
        Check.due("every RULE may be taken for one", x.says(0, 0), 7);
    }

    private static void own() {
        Doc.says("1 OWN, under RULE: that by which it GAINS most today;");
        AwakeByHalves x = of("act 1 0 0 1;act 1 1 0 1;act 2 2 0 1;mark 2;likes 0 0 5;likes 0 1 6;hates 0 2 7;hates 1 1 50;likes 1 2 50");
        Check.due("the most to itself, whatever it is to the other", next(x, 1, 0), 2);
        Check.due("under RULE", x.says(7, 0), 0);
        Check.due("not under KIND", x.says(7, 2), -3);
        Check.town(x, "hates 0 0 5;hates 0 1 6;likes 0 2 7");
        Check.due("all ACTS are worse than none", next(x, 1, 0), -1);
    }

    private static void kind() {
        Doc.says("2 KIND, under OWN: that by which VALUE to both together is greatest;");
        AwakeByHalves x = of("act 1 0 0 1;act 1 1 0 1;likes 0 0 9;likes 0 1 5;likes 1 1 5");
        Check.due("10 of both ahead of 9", next(x, 2, 0), 1);
        Check.due("as OWN it may be taken", x.says(7, 1), 1);
        Check.town(x, "likes 1 1 4");
        Check.due("9 of both, too", next(x, 2, 0), 0);
        Check.town(x, "hates 1 0 9;hates 1 1 5");
        Check.due("0 of both", next(x, 2, 0), -1);
        Check.due("not under PACT", x.says(7, 4), -3);
        Check.due("not under IDLE", x.says(7, 5), -3);
    }

    private static void turn() {
        Doc.says("3 TURN, under RULE: BEST of a modulo 4 and 1 DAYS;");
        // day 1: mark 0; 3 days: none of it, but mark 1, then mark 2 on the third
        AwakeByHalves x = of("act 1 0 0 1;act 1 1 0 1;act 1 2 0 1 need 1 bar 0;likes 0 0 3;likes 0 2 50;hates 0 1 1");
        int[] firsts = {0, 0, 1, 1};
        for (int a = 0; a < 100; a++) {
            Check.due("a " + a, next(x, 3, a), firsts[a % 4]);
        }
        for (int k = 1; k <= 4; k++) {
            Check.due("BEST of " + k, x.best(k, 2), firsts[k - 1]);
        }
        Check.due("not under OWN", x.says(7, 1), -3);
        Check.due("under RULE", x.says(7, 0), 99);
    }

    /** ACT 0 is best for HALF 0, ACT 1 for both; VALUE to HALF 0 ahead of it is v. */
    private static AwakeByHalves asTheyAre(int v) {
        AwakeByHalves x = of("act 1 0 0 1;act 1 1 0 1;mark 7;likes 0 0 9;likes 0 1 5;likes 1 1 8");
        x.likes(0, 7, v);
        return x;
    }

    private static void pact() {
        Doc.says("4 PACT, under KIND: as KIND, if VALUE to this HALF is a less 50 at least ahead of the ACT; else as OWN;");
        Check.due("a 0, VALUE -50", next(asTheyAre(-50), 4, 0), 1);
        Check.due("a 0, VALUE -51", next(asTheyAre(-51), 4, 0), 0);
        Check.due("a 50, VALUE 0", next(asTheyAre(0), 4, 50), 1);
        Check.due("a 50, VALUE -1", next(asTheyAre(-1), 4, 50), 0);
        Check.due("a 99, VALUE 49", next(asTheyAre(49), 4, 99), 1);
        Check.due("a 99, VALUE 48", next(asTheyAre(48), 4, 99), 0);
        AwakeByHalves x = asTheyAre(48);
        x.likes(1, 7, 49);
        Check.due("VALUE to the other is no matter", next(x, 4, 99), 0);
        Check.due("under KIND", x.says(7, 2), 0);
        Check.due("under OWN", x.says(7, 1), 0);
        Check.due("under RULE", x.says(7, 0), 99);
        x.does(-1);
        Check.due("VALUE to HALF 1, which is awake now: as KIND", next(x, 4, 99), 1);
    }

    private static void idle() {
        Doc.says("5 IDLE, under OWN: none, if as OWN it would GAIN no more than a more than by none; else as OWN;");
        AwakeByHalves x = of("act 1 0 0 1;act 4 1 0 1;count 0 3;mark 7;likes 0 0 98;likes 0 1 99;hates 0 7 40;likes 1 0 3");
        Check.due("99 more, a 98", next(x, 5, 98), 1);
        Check.due("99 more, a 99", next(x, 5, 99), -1);
        Check.town(x, "costs 0 0 1");
        Check.due("100 more, a 99", next(x, 5, 99), 1);
        Check.town(x, "likes 0 0 1;likes 0 1 0;costs 0 0 0");
        Check.due("1 more, a 0", next(x, 5, 0), 0);
        Check.due("1 more, a 1", next(x, 5, 1), -1);
        Check.town(x, "likes 0 0 0");
        Check.due("no more, a 0", next(x, 5, 0), -1);
        Check.due("under OWN", x.says(7, 1), -1);
        Check.due("not under KIND", x.says(7, 2), -3);
        x.does(-1);
        Check.due("HALF 1: 3 more, a 2", next(x, 5, 2), 0);
        Check.due("HALF 1: 3 more, a 3", next(x, 5, 3), -1);
    }

    private static void low() {
        Doc.says("6 LOW, under RULE: the first that CAN be, if any.");
        AwakeByHalves x = new AwakeByHalves();
        Check.due("there is no ACT", next(x, 6, 0), -1);
        Check.town(x, "act 2 0 0 1;act 1 1 0 1;act 1 2 0 1;hates 0 1 9;likes 0 2 9");
        Check.due("the first that CAN be, though worse", next(x, 6, 99), 1);
        x.lock(0, 1, true);
        Check.due("the next", next(x, 6, 0), 2);
        x.lock(0, 2, true);
        Check.due("none CAN be", next(x, 6, 0), -1);
        Check.due("under RULE", x.says(7, 0), 0);
        Check.due("not under OWN", x.says(7, 1), -3);
        for (int a = 3; a < 10; a++) {
            x.act(a < 9 ? 2 : 3, 3, 0, 1, 0, 0);
        }
        Check.due("the tenth alone", next(x, 6, 0), 9);
    }

    private static void run() {
        Doc.says("A RUN of n DAYS (0 to 60) by two RULES, HALF 0 by one, HALF 1 by the other: from how all is now,"
            + " nothing being changed.");
        AwakeByHalves x = of("act 0 0 0 1;act 0 0 1 1;counts 0 0 1;counts 1 1 1;hides 3");
        x.rule(0, 1, 0);
        x.rule(1, 6, 0);
        x.does(0);
        x.does(1);
        x.does(-1);
        String before = AnyArgumentsTest.all(x);
        Check.due("-1 DAYS", x.run(0, 1, -1, 0), -1000002);
        Check.due("61 DAYS", x.run(0, 1, 61, 0), -1000002);
        Check.due("no DAY", x.run(0, 1, 0, 0) + x.run(0, 1, 0, 1) + x.run(0, 1, 0, 3), 0);
        // HALF 1 is awake: by LOW it does ACT 0 and GAINS 1 by COUNT 1, which is 1; then HALF 0 by OWN does ACT 0
        Check.due("HALF 1 on the first DAY", x.run(0, 1, 1, 1), 1);
        Check.due("HALF 0 on the first DAY", x.run(0, 1, 1, 0), 0);
        Check.due("HALF 0 on the second: 1, one more, one more", x.run(0, 1, 2, 0), 3);
        // COUNT 0 has 23 on DAY 22: HALF 0 GAINS 3, 5, .. 23 on 11 DAYS, then 23 on 19
        Check.due("60 DAYS", x.run(0, 1, 60, 0), 11 * 13 + 19 * 23);
        Check.due("HALF 1 in 60 DAYS", x.run(0, 1, 60, 1), 30);
        Check.due("HALF 1 by OWN: 2, 3, .. 23 on 22 DAYS, then 23 on 8", x.run(1, 0, 60, 1), 22 * 25 / 2 + 8 * 23);
        Check.holds("nothing is changed but two refusals", before.equals(AnyArgumentsTest.all(x)));
        Check.due("FOUND neither", x.found(), 1024);
    }
}
