/** Promises 9 to 14 and 18 to 22: acts, marks, counts, worths, locks, and what they tell. */
public final class TownTest {
    public static void main(String[] args) {
        act();
        mark();
        count();
        likes();
        lock();
        hide();
        stands();
        canByKind();
        canByNeeds();
        value();
        Check.end("TownTest");
    }

    private static void act() {
        AwakeByHalves x = new AwakeByHalves();
        Check.due("act", x.act(5, 7, 3, 9, 255, 0), 0);
        Check.due("act", x.act(0, 0, 0, 1, 0, 255), 1);
        int[] want = {5, 7, 3, 9, 255, 0, 0};
        int[] other = {0, 0, 0, 1, 0, 255, 0};
        for (int what = 0; what <= 6; what++) {
            Check.due("actOf(0, " + what + ")", x.actOf(0, what), want[what]);
            Check.due("actOf(1, " + what + ")", x.actOf(1, what), other[what]);
        }
        Check.due("what 7", x.actOf(0, 7), -2);
        Check.due("what -1", x.actOf(0, -1), -2);
        Check.due("act 2", x.actOf(2, 0), -2);
        Check.due("act -1", x.actOf(-1, 0), -2);
        int[][] bad = {{-1, 0, 0, 1, 0, 0}, {6, 0, 0, 1, 0, 0}, {0, -1, 0, 1, 0, 0}, {0, 8, 0, 1, 0, 0},
            {0, 0, -1, 1, 0, 0}, {0, 0, 4, 1, 0, 0}, {0, 0, 0, 0, 0, 0}, {0, 0, 0, 10, 0, 0},
            {0, 0, 0, 1, -1, 0}, {0, 0, 0, 1, 256, 0}, {0, 0, 0, 1, 0, -1}, {0, 0, 0, 1, 0, 256}};
        for (int[] b : bad) {
            Check.due("a bad act", x.act(b[0], b[1], b[2], b[3], b[4], b[5]), -2);
        }
        Check.due("none of these is there", x.status(0), 2);
        for (int a = 2; a < 10; a++) {
            Check.due("act " + a, x.act(0, 0, 0, 1, 0, 0), a);
        }
        Check.due("an 11th", x.act(0, 0, 0, 1, 0, 0), -6);
        Check.due("BAD ahead of FULL", x.act(6, 0, 0, 1, 0, 0), -2);
        Check.due("acts", x.status(0), 10);
        Check.due("BAD so far", x.status(12), bad.length + 5);
        Check.due("FULL so far", x.status(16), 1);
    }

    private static void mark() {
        AwakeByHalves x = new AwakeByHalves();
        Check.due("mark(0, true)", x.mark(0, true), 1);
        Check.due("mark(7, true)", x.mark(7, true), 1);
        Check.due("again", x.mark(7, true), 0);
        Check.due("stands(0)", x.stands(0), 129);
        Check.due("mark(3, false)", x.mark(3, false), 0);
        Check.due("mark(0, false)", x.mark(0, false), 1);
        Check.due("stands(0)", x.stands(0), 128);
        Check.due("mark -1", x.mark(-1, true), -2);
        Check.due("mark 8", x.mark(8, true), -2);
        Check.due("how many stand", x.status(1), 1);
    }

    private static void count() {
        AwakeByHalves x = new AwakeByHalves();
        for (int c = 0; c < 4; c++) {
            Check.due("count(" + c + ", 23)", x.count(c, 23), 0);
        }
        Check.due("all together", x.status(3), 92);
        Check.due("count(3, 0)", x.count(3, 0), 23);
        Check.due("count(1, 4)", x.count(1, 4), 23);
        Check.due("stands(2)", x.stands(2), 23);
        Check.due("stands(3)", x.stands(3), 4);
        Check.due("stands(4)", x.stands(4), 23);
        Check.due("stands(5)", x.stands(5), 0);
        Check.due("24", x.count(1, 24), -2);
        Check.due("-1", x.count(1, -1), -2);
        Check.due("count 4", x.count(4, 0), -2);
        Check.due("count -1", x.count(-1, 0), -2);
        Check.due("as it was", x.stands(3), 4);
        Check.due("no mark was touched", x.stands(0), 0);
        Check.due("nor the half", x.stands(6), 0);
    }

    private static void likes() {
        AwakeByHalves x = new AwakeByHalves();
        for (int half = 0; half < 2; half++) {
            for (int what = 0; what < 12; what++) {
                int most = what < 8 ? 99 : 9;
                Check.due("most", x.likes(half, what, most), 1);
                Check.due("worthOf", x.worthOf(half, what), most);
                Check.due("least", x.likes(half, what, -most), 1);
                Check.due("worthOf", x.worthOf(half, what), -most);
                Check.due("too much", x.likes(half, what, most + 1), -2);
                Check.due("too little", x.likes(half, what, -most - 1), -2);
                Check.due("its own", x.likes(half, what, what - half * 3 - 4), 1);
            }
        }
        for (int what = 0; what < 12; what++) {
            Check.due("worth to 0", x.worthOf(0, what), what - 4);
            Check.due("worth to 1", x.worthOf(1, what), what - 7);
        }
        Check.due("half 2", x.likes(2, 0, 0), -2);
        Check.due("half -1", x.likes(-1, 0, 0), -2);
        Check.due("what 12", x.likes(0, 12, 0), -2);
        Check.due("what -1", x.likes(0, -1, 0), -2);
        Check.due("worth to half 2", x.worthOf(2, 0), -1000002);
        Check.due("worth to half -1", x.worthOf(-1, 0), -1000002);
        Check.due("worth of 12", x.worthOf(0, 12), -1000002);
        Check.due("worth of -1", x.worthOf(0, -1), -1000002);
        Check.due("BAD so far", x.status(12), 56);
    }

    private static void lock() {
        AwakeByHalves x = new AwakeByHalves();
        Check.due("no act yet", x.lock(0, 0, true), -2);
        x.act(0, 0, 0, 1, 0, 0);
        x.act(0, 0, 0, 1, 0, 0);
        Check.due("lock(0, 0, true)", x.lock(0, 0, true), 1);
        Check.due("again", x.lock(0, 0, true), 0);
        Check.due("lock(1, 0, false)", x.lock(1, 0, false), 0);
        Check.due("locked for", x.actOf(0, 6), 1);
        Check.due("can(0)", x.can(0), 2);
        Check.due("can(1)", x.can(1), 3);
        Check.due("lock(1, 0, true)", x.lock(1, 0, true), 1);
        Check.due("locked for", x.actOf(0, 6), 3);
        Check.due("acts locked", x.status(4), 1);
        Check.due("lock(0, 0, false)", x.lock(0, 0, false), 1);
        Check.due("locked for", x.actOf(0, 6), 2);
        Check.due("acts locked", x.status(4), 1);
        Check.due("lock(1, 1, true)", x.lock(1, 1, true), 1);
        Check.due("acts locked", x.status(4), 2);
        Check.due("half 2", x.lock(2, 0, true), -2);
        Check.due("half -1", x.lock(-1, 0, true), -2);
        Check.due("act 2", x.lock(0, 2, true), -2);
        Check.due("act -1", x.lock(0, -1, true), -2);
    }

    private static void hide() {
        AwakeByHalves x = new AwakeByHalves();
        Check.due("hide(255)", x.hide(255), 0);
        Check.due("hide(6)", x.hide(6), 255);
        Check.due("stands(1)", x.stands(1), 6);
        Check.due("hide(-1)", x.hide(-1), -2);
        Check.due("hide(256)", x.hide(256), -2);
        Check.due("stands(1)", x.stands(1), 6);
        Check.due("hide(0)", x.hide(0), 6);
    }

    private static void stands() {
        AwakeByHalves x = new AwakeByHalves();
        Check.due("half", x.stands(6), 0);
        x.does(-1);
        Check.due("half", x.stands(6), 1);
        x.does(-1);
        Check.due("half", x.stands(6), 0);
        Check.due("what 7", x.stands(7), -2);
        Check.due("what -1", x.stands(-1), -2);
    }

    private static void can(int kind, boolean stands, int have, boolean is) {
        AwakeByHalves x = new AwakeByHalves();
        x.act(kind, 2, 1, 5, 0, 0);
        x.mark(2, stands);
        x.count(1, have);
        Check.due("kind " + kind + ", " + stands + ", " + have, x.can(0), is ? 1 : 0);
        Check.due("the other half, too", x.can(1), is ? 1 : 0);
        Check.due("does", x.does(0), is ? 1 : -5);
    }

    private static void behind(int kind, boolean stands, int have, boolean standsThen, int haveThen) {
        AwakeByHalves x = new AwakeByHalves();
        x.act(kind, 2, 1, 5, 0, 0);
        x.mark(2, stands);
        x.count(1, have);
        x.does(0);
        Check.due("mark behind kind " + kind, x.stands(0), standsThen ? 4 : 0);
        Check.due("count behind kind " + kind, x.stands(3), haveThen);
        Check.due("other counts", x.stands(2) + x.stands(4) + x.stands(5), 0);
    }

    private static void canByKind() {
        for (int have : new int[] {0, 4, 5, 18, 19, 23}) {
            for (int s = 0; s < 2; s++) {
                boolean stands = s == 1;
                can(0, stands, have, true);
                can(1, stands, have, !stands);
                can(2, stands, have, stands);
                can(3, stands, have, true);
                can(4, stands, have, !stands && have >= 5);
                can(5, stands, have, stands && have <= 18);
                behind(0, stands, have, stands, have == 19 || have == 23 ? 23 : have + 5);
                behind(3, stands, have, !stands, have);
            }
            behind(1, false, have, true, have);
            behind(2, true, have, false, have);
        }
        behind(4, false, 5, true, 0);
        behind(4, false, 23, true, 18);
        behind(5, true, 18, false, 23);
        behind(5, true, 0, false, 5);
        AwakeByHalves x = new AwakeByHalves();
        Check.due("half 2", x.can(2), -2);
        Check.due("half -1", x.can(-1), -2);
    }

    private static void canByNeeds() {
        AwakeByHalves x = new AwakeByHalves();
        x.act(0, 0, 0, 1, 129, 0);
        x.act(0, 0, 0, 1, 0, 129);
        x.act(0, 0, 0, 1, 1, 128);
        x.act(0, 0, 0, 1, 1, 1);
        Check.due("none stands", x.can(0), 2);
        x.mark(0, true);
        Check.due("0 stands", x.can(0), 4);
        x.mark(7, true);
        Check.due("both stand", x.can(0), 1);
        x.mark(0, false);
        Check.due("7 stands", x.can(0), 0);
    }

    private static void value() {
        AwakeByHalves x = new AwakeByHalves();
        for (int what = 0; what < 12; what++) {
            x.likes(0, what, what < 8 ? 99 : 9);
            x.likes(1, what, what < 8 ? -10 - what : what - 10);
        }
        Check.due("nothing there", x.value(0), 0);
        x.mark(3, true);
        Check.due("a mark", x.value(0), 99);
        Check.due("a mark", x.value(1), -13);
        x.count(3, 5);
        Check.due("a count", x.value(0), 144);
        Check.due("a count", x.value(1), -8);
        for (int i = 0; i < 8; i++) {
            x.mark(i, true);
            x.count(i / 2, 23);
        }
        Check.due("all there is", x.value(0), 8 * 99 + 4 * 23 * 9);
        Check.due("all there is", x.value(1), -108 + 23 * (-2 - 1 + 0 + 1));
        Check.due("half 2", x.value(2), -1000002);
        Check.due("half -1", x.value(-1), -1000002);
        Check.due("BAD so far", x.status(12), 2);
    }
}
