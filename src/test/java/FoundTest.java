/** Promises 38 and 39: what the other may have done, and what to say of it. */
public final class FoundTest {
    public static void main(String[] args) {
        found();
        foundByCounts();
        foundByDoer();
        stuck();
        notStuck();
        say();
        sayLeast();
        refusals();
        Check.end("FoundTest");
    }

    /** 0 MAKE 0, 1 TURN 0, 2 ACT (count 0, 1 more), 3 TURN 1, 4 BREAK 0. */
    private static AwakeByHalves yard() {
        AwakeByHalves x = new AwakeByHalves();
        Check.town(x, "act 1 0 0 1;act 3 0 0 1;act 0 0 0 1;act 3 1 0 1;act 2 0 0 1");
        return x;
    }

    private static void found() {
        AwakeByHalves fresh = new AwakeByHalves();
        Check.due("nothing was done yet", fresh.found(), -5);
        Check.due("nor is there to say", fresh.say(0, 0), -5);
        AwakeByHalves x = yard();
        Check.due("nothing was done yet", x.found(), -5);
        x.does(0);
        Check.due("MAKE 0 or TURN 0", x.found(), 3);
        x.hide(1);
        Check.due("or none", x.found(), 1027);
        x.hide(3);
        Check.due("or TURN 1", x.found(), 1035);
        x.hide(2);
        Check.due("mark 0 is seen", x.found(), 3);
        x.does(-1);
        x.hide(0);
        Check.due("none was done", x.found(), 1024);
        x.hide(1);
        Check.due("with 0 standing: none, TURN, BREAK, but no MAKE", x.found(), 1024 + 2 + 16);
        Check.due("STUCK once", x.status(15), 1);
    }

    private static void foundByCounts() {
        AwakeByHalves x = yard();
        x.hide(255);
        x.does(2);
        Check.due("counts are seen", x.found(), 4);
        x.count(0, 23);
        x.does(2);
        Check.due("no more than 23: it looks like nothing", x.found(), 1024 + 1 + 2 + 4 + 8);
    }

    /** What the one who was awake could do counts, not what the one awake now can. */
    private static void foundByDoer() {
        AwakeByHalves x = yard();
        x.lock(0, 1, true);
        x.does(0);
        Check.due("TURN 0 was locked for half 0", x.found(), 1);
        x.does(4);
        Check.due("for half 1 it wasn't", x.found(), 18);
    }

    private static AwakeByHalves known() {
        AwakeByHalves x = yard();
        x.does(0);
        return x;
    }

    private static void isStuck(String why, AwakeByHalves x) {
        Check.due("found() behind " + why, x.found(), -5);
        Check.due("say() behind " + why, x.say(0, 0), -5);
        x.does(-1);
        Check.due("found() a day later", x.found(), 1024);
    }

    private static void stuck() {
        AwakeByHalves x = known();
        x.act(0, 0, 0, 1, 0, 0);
        isStuck("act()", x);
        x = known();
        x.mark(5, true);
        isStuck("mark()", x);
        x = known();
        x.mark(0, true);
        isStuck("mark() that was so", x);
        x = known();
        x.count(2, 3);
        isStuck("count()", x);
        x = known();
        x.lock(0, 0, true);
        isStuck("lock()", x);
        x = known();
        x.lock(0, 0, false);
        isStuck("lock() that was so", x);
        x = known();
        Check.town(x, "likes 0 0 1");
        isStuck("a town", x);
        x = known();
        x.leap();
        isStuck("a day left over", x);
    }

    private static void notStuck() {
        AwakeByHalves x = known();
        x.act(9, 0, 0, 1, 0, 0);
        x.mark(8, true);
        x.count(0, 24);
        x.lock(0, 9, true);
        Check.town(x, "mark 8");
        Check.due("refused calls change nothing", x.found(), 3);
        x.likes(0, 0, 4);
        x.seed(5);
        x.rule(0, 1, 0);
        x.row(1, 1, 1);
        x.feed(32);
        x.run(0, 0, 9, 0);
        x.up(2);
        Check.due("nor do these", x.found(), 3);
        x.image();
        x.leap();
        Check.due("a day left over", x.found(), -5);
        x.back();
        Check.due("back, as it was kept", x.found(), 3);
        x.mark(7, true);
        x.image();
        x.does(-1);
        Check.due("known", x.found(), 1024);
        x.back();
        Check.due("not known when it was kept", x.found(), -5);
    }

    private static void says(AwakeByHalves x, int w, int set, int left) {
        Check.due("say(" + w + ", 0)", x.say(w, 0), set);
        Check.due("say(" + w + ", 1)", x.say(w, 1), left);
    }

    private static void say() {
        AwakeByHalves x = known();
        x.hide(3);
        says(x, 0, 0, 4);
        says(x, 1, 1, 2);
        says(x, 2, 3, 2);
        says(x, 8, 3, 2);
        x = yard();
        x.hide(3);
        x.does(3);
        says(x, 1, 2, 1);
        says(x, 2, 3, 1);
        Check.due("nothing is told in truth", x.stands(1), 3);
        x.hide(0);
        says(x, 5, 0, 1);
    }

    /** Of several as good the least set; all words are used, though fewer would do. */
    private static void sayLeast() {
        AwakeByHalves x = known();
        x.hide(0b11110100);
        says(x, 1, 4, 2);
        says(x, 2, 0b10100, 2);
        says(x, 3, 0b110100, 2);
        x.hide(0b11110101);
        says(x, 1, 1, 2);
        says(x, 2, 0b101, 2);
        x.hide(255);
        x.does(3);
        says(x, 1, 2, 1);
        says(x, 8, 255, 1);
    }

    private static void refusals() {
        AwakeByHalves x = known();
        Check.due("w 9", x.say(9, 0), -2);
        Check.due("w -1", x.say(-1, 0), -2);
        Check.due("what 2", x.say(0, 2), -2);
        Check.due("what -1", x.say(0, -1), -2);
        x.leap();
        Check.due("BAD ahead of STUCK", x.say(9, 0), -2);
        Check.due("STUCK", x.say(8, 0), -5);
        Check.due("BAD", x.status(12), 5);
        Check.due("STUCK", x.status(15), 1);
    }
}
