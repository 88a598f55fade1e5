import java.io.IOException;

/** Promises 1 to 14, sentence by sentence: shelves, and what a town is made of. */
public final class Promises1To14Test {
    public static void main(String[] args) throws IOException {
        newObject();
        row();
        set();
        copy();
        element();
        holds();
        rule();
        says();
        act();
        mark();
        count();
        likes();
        lock();
        hide();
        Doc.end("Promises1To14Test", "## Promise 1:", "## Promise 15:");
    }

    private static void newObject() {
        Doc.says("No ACTS; SHELVES hold NOTHING; THE TAPE is empty.");
        AwakeByHalves x = new AwakeByHalves();
        Check.due("ACTS", x.status(0), 0);
        Check.due("ACTS that CAN be", x.can(0) + x.can(1), 0);
        Check.due("no ACT 0", x.does(0), -2);
        Check.due("SHELVES", x.status(7), 0);
        for (int s = 0; s < 8; s++) {
            Check.due("SHELF " + s, x.holds(s), -1);
        }
        Check.due("THE TAPE", x.status(5), 0);
        Check.due("THE TAPE", x.wipe(), 0);
        AwakeByHalves y = new AwakeByHalves();
        y.act(0, 0, 0, 1, 0, 0);
        y.row(0, 0, 1);
        y.feed(1);
        Check.due("an object has nothing of another", x.status(0) + x.status(7) + x.status(5), 0);
    }

    private static void row() {
        Doc.says("SHELF s holds a new ROW: 1.");
        AwakeByHalves x = new AwakeByHalves();
        Check.due("the first SHELF, the least SORT, no elements", x.row(0, 0, 0), 1);
        Check.due("the last SHELF, the greatest SORT, 40 elements", x.row(7, 4, 40), 1);
        Check.due("SHELF 0", x.holds(0), 0);
        Check.due("SHELF 7", x.holds(7), 4);
        x.set(7, 39, 1);
        Check.due("a new ROW in its place", x.row(7, 4, 40), 1);
        Check.due("nothing is left of the other", x.element(7, 39), 0);
        x.rule(0, 3, 5);
        Check.due("a new ROW in a RULE's place", x.row(0, 3, 2), 1);
        Check.due("SHELF 0", x.holds(0), 3);
        Check.due("no RULE is left", x.next(0), -3);
        Doc.says("BAD.");
        int[][] bad = {{-1, 0, 0}, {8, 0, 0}, {0, -1, 0}, {0, 5, 0}, {0, 0, -1}, {0, 0, 41}};
        x.set(0, 1, 9);
        for (int[] b : bad) {
            Check.due("row", x.row(b[0], b[1], b[2]), -2);
        }
        Check.due("the ROW is as it was", x.element(0, 1), 9);
    }

    private static void set() {
        Doc.says("Element i of the ROW in SHELF s becomes v: 1.");
        AwakeByHalves x = new AwakeByHalves();
        x.row(0, 3, 3);
        x.row(1, 3, 3);
        Check.due("the first", x.set(0, 0, Long.MAX_VALUE), 1);
        Check.due("the last", x.set(0, 2, Long.MIN_VALUE), 1);
        Check.due("the same again", x.set(0, 2, Long.MIN_VALUE), 1);
        Check.due("the first", x.element(0, 0), Long.MAX_VALUE);
        Check.due("the last", x.element(0, 2), Long.MIN_VALUE);
        Check.due("between them", x.element(0, 1), 0);
        Check.due("another SHELF", x.element(1, 0), 0);
        Doc.says("BAD SHELF; OTHER; NOTHING; BAD i.");
        x.rule(2, 1, 0);
        Check.due("SHELF -1", x.set(-1, 0, 1), -2);
        Check.due("SHELF 8", x.set(8, 0, 1), -2);
        Check.due("OTHER", x.set(2, 0, 1), -3);
        Check.due("OTHER ahead of BAD i", x.set(2, -1, 1), -3);
        Check.due("NOTHING", x.set(3, 0, 1), -4);
        Check.due("NOTHING ahead of BAD i", x.set(3, 40, 1), -4);
        Check.due("i -1", x.set(0, -1, 1), -2);
        Check.due("i 3 of 3", x.set(0, 3, 1), -2);
        x.row(4, 3, 0);
        Check.due("i 0 of none", x.set(4, 0, 1), -2);
    }

    private static void fill(AwakeByHalves x, int s, int n) {
        x.row(s, 2, n);
        for (int i = 0; i < n; i++) {
            x.set(s, i, 10 * s + i);
        }
    }

    private static void isRow(AwakeByHalves x, int s, long... want) {
        for (int i = 0; i < want.length; i++) {
            Check.due("element(" + s + ", " + i + ")", x.element(s, i), want[i]);
        }
    }

    private static void copy() {
        Doc.says("n elements of the ROW in SHELF p from place i on come to places j on of that in q (as they were): n.");
        AwakeByHalves x = new AwakeByHalves();
        fill(x, 1, 4);
        fill(x, 2, 3);
        Check.due("one, the last to the first", x.copy(1, 2, 3, 0, 1), 1);
        isRow(x, 2, 13, 21, 22);
        Check.due("all that there is room for", x.copy(1, 2, 1, 0, 3), 3);
        isRow(x, 2, 11, 12, 13);
        Check.due("none", x.copy(1, 2, 0, 0, 0), 0);
        Check.due("none, at both ends", x.copy(1, 2, 4, 3, 0), 0);
        isRow(x, 2, 11, 12, 13);
        Check.due("upwards over itself, as they were", x.copy(1, 1, 0, 1, 3), 3);
        isRow(x, 1, 10, 10, 11, 12);
        fill(x, 1, 4);
        Check.due("downwards over itself, as they were", x.copy(1, 1, 1, 0, 3), 3);
        isRow(x, 1, 11, 12, 13, 13);
        Check.due("onto itself", x.copy(1, 1, 0, 0, 4), 4);
        fill(x, 3, 40);
        fill(x, 4, 40);
        Check.due("40", x.copy(3, 4, 0, 0, 40), 40);
        Check.due("the last of them", x.element(4, 39), 69);
        copyRefused(x);
    }

    private static void copyRefused(AwakeByHalves x) {
        Doc.says("BAD SHELVES; OTHER (also ROWS of two SORTS, if both hold something); NOTHING; BAD the others.");
        fill(x, 1, 4);
        fill(x, 2, 3);
        x.rule(5, 1, 0);
        x.row(6, 3, 4);
        Check.due("BAD p, ahead of OTHER", x.copy(-1, 5, 0, 0, 1), -2);
        Check.due("BAD q, ahead of NOTHING", x.copy(0, 8, 0, 0, 1), -2);
        Check.due("a RULE and a ROW", x.copy(5, 1, 0, 0, 1), -3);
        Check.due("a ROW and a RULE", x.copy(1, 5, 0, 0, 1), -3);
        Check.due("a RULE, ahead of NOTHING", x.copy(5, 0, 0, 0, 1), -3);
        Check.due("NOTHING, but behind a RULE", x.copy(0, 5, 0, 0, 1), -3);
        Check.due("two SORTS", x.copy(1, 6, 0, 0, 1), -3);
        Check.due("two SORTS, ahead of BAD n", x.copy(6, 1, 0, 0, -1), -3);
        Check.due("a ROW and NOTHING", x.copy(1, 0, 0, 0, 1), -4);
        Check.due("NOTHING and a ROW", x.copy(0, 6, 0, 0, 1), -4);
        Check.due("NOTHING twice, ahead of BAD i", x.copy(0, 0, -1, 0, 1), -4);
        int[][] bad = {{-1, 0, 1}, {0, -1, 1}, {0, 0, -1}, {4, 0, 1}, {0, 3, 1}, {5, 0, 0}, {0, 4, 0}, {2, 0, 3}, {0, 1, 3},
            {0, 0, 4}, {Integer.MAX_VALUE, 0, 1}, {0, Integer.MAX_VALUE, 1}, {1, 1, Integer.MAX_VALUE}};
        for (int[] b : bad) {
            Check.due("BAD " + b[0] + ", " + b[1] + ", " + b[2], x.copy(1, 2, b[0], b[1], b[2]), -2);
        }
        isRow(x, 2, 20, 21, 22);
        isRow(x, 6, 0, 0, 0, 0);
    }

    private static void element() {
        Doc.says("Element i of the ROW; 0: none, no ROW (nothing is refused).");
        AwakeByHalves x = new AwakeByHalves();
        fill(x, 1, 2);
        isRow(x, 1, 10, 11);
        x.rule(2, 4, 9);
        int[][] none = {{1, 2}, {1, -1}, {1, 40}, {1, Integer.MAX_VALUE}, {1, Integer.MIN_VALUE}, {0, 0}, {2, 0}, {-1, 0}, {8, 0}};
        for (int[] n : none) {
            Check.due("element(" + n[0] + ", " + n[1] + ")", x.element(n[0], n[1]), 0);
        }
        x.row(1, 2, 0);
        Check.due("of a ROW of none, where another was", x.element(1, 0), 0);
        fill(x, 1, 2);
        x.rule(1, 1, 0);
        Check.due("of a RULE, where a ROW was", x.element(1, 0), 0);
        for (int what = 12; what <= 16; what++) {
            Check.due("nothing is refused", x.status(what), 0);
        }
    }

    private static void holds() {
        Doc.says("What SHELF s holds: NONE NOTHING, no SHELF; 0 to 4 a ROW by its SORT; 10 and the KIND of a RULE.");
        AwakeByHalves x = new AwakeByHalves();
        Check.due("NOTHING", x.holds(0), AwakeByHalves.NONE);
        for (int s : new int[] {-1, 8, Integer.MIN_VALUE, Integer.MAX_VALUE}) {
            Check.due("no SHELF", x.holds(s), AwakeByHalves.NONE);
        }
        for (int sort = 0; sort <= 4; sort++) {
            x.row(7, sort, 0);
            Check.due("a ROW of SORT " + sort, x.holds(7), sort);
        }
        for (int kind = 1; kind <= 6; kind++) {
            x.rule(7, kind, 99);
            Check.due("a RULE of KIND " + kind, x.holds(7), 10 + kind);
        }
        Check.due("nothing is refused", x.status(12), 0);
    }

    private static void rule() {
        Doc.says("SHELF s holds a RULE of a KIND (1 to 6) by a: 1.");
        AwakeByHalves x = new AwakeByHalves();
        Check.due("the first SHELF, the least KIND, a 0", x.rule(0, 1, 0), 1);
        Check.due("the last SHELF, the greatest KIND, a 99", x.rule(7, 6, 99), 1);
        Check.due("SHELF 0", x.holds(0), 11);
        Check.due("SHELF 7", x.holds(7), 16);
        Check.due("its a", x.says(7, 0), 99);
        Check.due("another in its place", x.rule(7, 5, 98), 1);
        Check.due("SHELF 7", x.holds(7), 15);
        Check.due("its a", x.says(7, 0), 98);
        x.row(1, 0, 4);
        Check.due("a RULE in a ROW's place", x.rule(1, 2, 1), 1);
        Check.due("no ROW is left", x.set(1, 0, 1), -3);
        Doc.says("BAD.");
        int[][] bad = {{-1, 1, 0}, {8, 1, 0}, {7, 0, 0}, {7, 7, 0}, {7, 1, -1}, {7, 1, 100}};
        for (int[] b : bad) {
            Check.due("rule", x.rule(b[0], b[1], b[2]), -2);
        }
        Check.due("SHELF 7 is as it was", x.holds(7), 15);
        Check.due("its a", x.says(7, 0), 98);
    }

    private static void says() {
        Doc.says("What the RULE in SHELF s, taken for one of a KIND, says: RULE its a; others, as their first, the ACT it would"
            + " say now (NONE: none).");
        AwakeByHalves x = new AwakeByHalves();
        Check.town(x, "act 1 0 0 1;act 1 1 0 1;likes 0 0 9;likes 0 1 5;likes 1 1 8;hides 0");
        int[][] rules = {{1, 0, 0}, {2, 7, 1}, {3, 0, 0}, {4, 50, 1}, {4, 51, 0}, {5, 8, 0}, {5, 9, -1}, {6, 99, 0}};
        int[][] above = {{}, {1}, {1, 2}, {3}, {1, 2, 4}, {1, 5}, {6}};
        for (int s = 0; s < 8; s++) {
            x.rule(s, rules[s][0], rules[s][1]);
            Check.due("RULE its a", x.says(s, 0), rules[s][1]);
            for (int kind : above[rules[s][0]]) {
                Check.due("RULE " + s + " taken for KIND " + kind, x.says(s, kind), rules[s][2]);
            }
            Check.due("as next() has it", x.next(s), rules[s][2]);
        }
        Doc.says("BAD SHELF, KIND; OTHER (also if it is of no such KIND nor of one under it); NOTHING.");
        x.row(6, 0, 1);
        AwakeByHalves empty = new AwakeByHalves();
        Check.due("SHELF -1", x.says(-1, 0), -2);
        Check.due("SHELF 8", x.says(8, 0), -2);
        Check.due("KIND -1", x.says(0, -1), -2);
        Check.due("KIND 7", x.says(0, 7), -2);
        Check.due("KIND 7, ahead of OTHER", x.says(6, 7), -2);
        Check.due("KIND 7, ahead of NOTHING", empty.says(0, 7), -2);
        Check.due("a ROW", x.says(6, 0), -3);
        Check.due("NOTHING", empty.says(0, 0), -4);
        Check.due("NOTHING, of whatever KIND", empty.says(0, 4), -4);
        for (int kind = 1; kind <= 6; kind++) {
            x.rule(0, kind, 0);
            for (int as = 1; as <= 6; as++) {
                boolean is = java.util.Arrays.toString(above[kind]).indexOf('0' + as) >= 0;
                Check.due("KIND " + kind + " is one of " + as, x.says(0, as) == -3 ? 0 : 1, is ? 1 : 0);
            }
        }
    }

    private static void act() {
        Doc.says("An ACT of a KIND (0 to 5): its number.");
        AwakeByHalves x = new AwakeByHalves();
        for (int a = 0; a < 10; a++) {
            Check.due("ACT " + a, x.act(a % 6, a % 8, a % 4, 1 + a % 9, 255 - a, a), a);
        }
        for (int a = 0; a < 10; a++) {
            int[] want = {a % 6, a % 8, a % 4, 1 + a % 9, 255 - a, a, 0};
            for (int what = 0; what < 7; what++) {
                Check.due("actOf(" + a + ", " + what + ")", x.actOf(a, what), want[what]);
            }
        }
        Doc.says("BAD; FULL.");
        Check.due("FULL", x.act(0, 0, 0, 1, 0, 0), -6);
        Check.due("BAD ahead of FULL", x.act(6, 0, 0, 1, 0, 0), -2);
        AwakeByHalves y = new AwakeByHalves();
        int[][] bad = {{-1, 0, 0, 1, 0, 0}, {6, 0, 0, 1, 0, 0}, {0, -1, 0, 1, 0, 0}, {0, 8, 0, 1, 0, 0}, {0, 0, -1, 1, 0, 0},
            {0, 0, 4, 1, 0, 0}, {0, 0, 0, 0, 0, 0}, {0, 0, 0, 10, 0, 0}, {0, 0, 0, 1, -1, 0}, {0, 0, 0, 1, 256, 0},
            {0, 0, 0, 1, 0, -1}, {0, 0, 0, 1, 0, 256}};
        for (int kind = 0; kind <= 5; kind++) {
            for (int[] b : bad) {
                int k = b[0] == 0 ? kind : b[0];
                Check.due("BAD, whatever the KIND needs of it", y.act(k, b[1], b[2], b[3], b[4], b[5]), -2);
            }
        }
        Check.due("no ACT came", y.status(0), 0);
        Check.due("the next is ACT 0 still", y.act(0, 0, 0, 1, 0, 0), 0);
    }

    private static void mark() {
        Doc.says("A MARK stands, or not: 1; 0 if it was so.");
        AwakeByHalves x = new AwakeByHalves();
        for (int m = 0; m < 8; m += 7) {
            Check.due("it didn't", x.mark(m, false), 0);
            Check.due("it stands", x.mark(m, true), 1);
            Check.due("it stood", x.mark(m, true), 0);
            Check.due("MARKS", x.stands(0), 1 << m);
            Check.due("it doesn't stand", x.mark(m, false), 1);
            Check.due("MARKS", x.stands(0), 0);
        }
        Doc.says("BAD.");
        Check.due("MARK -1", x.mark(-1, true), -2);
        Check.due("MARK 8", x.mark(8, true), -2);
        Check.due("MARK 8, not", x.mark(8, false), -2);
        Check.due("MARK 32", x.mark(32, true), -2);
        Check.due("MARKS", x.stands(0), 0);
        Check.due("COUNTS", x.status(3), 0);
    }

    private static void count() {
        Doc.says("A COUNT becomes v: what it was.");
        AwakeByHalves x = new AwakeByHalves();
        for (int c = 0; c < 4; c++) {
            Check.due("23", x.count(c, 23), 0);
            Check.due("23 again", x.count(c, 23), 23);
            Check.due("0", x.count(c, 0), 23);
            Check.due("its own", x.count(c, 5 + c), 0);
        }
        for (int c = 0; c < 4; c++) {
            Check.due("COUNT " + c, x.stands(2 + c), 5 + c);
        }
        Doc.says("BAD.");
        Check.due("COUNT -1", x.count(-1, 1), -2);
        Check.due("COUNT 4", x.count(4, 1), -2);
        Check.due("-1", x.count(0, -1), -2);
        Check.due("24", x.count(0, 24), -2);
        Check.due("what has room in its bits", x.count(3, 31), -2);
        Check.due("all COUNTS are as they were", x.status(3), 5 + 6 + 7 + 8);
        Check.due("HALF 0 is awake", x.stands(6), 0);
    }

    private static void likes() {
        Doc.says("WORTH for a HALF of a MARK (0 to 7), or of a COUNT (8 and it), becomes v: 1.");
        AwakeByHalves x = new AwakeByHalves();
        for (int i = 0; i < 24; i++) {
            int most = i % 12 < 8 ? 99 : 9;
            Check.due("the least", x.likes(i / 12, i % 12, -most), 1);
            Check.due("the same again", x.likes(i / 12, i % 12, -most), 1);
            Check.due("its WORTH", x.worthOf(i / 12, i % 12), -most);
            Check.due("the most", x.likes(i / 12, i % 12, most), 1);
            Check.due("its WORTH", x.worthOf(i / 12, i % 12), most);
            x.likes(i / 12, i % 12, i % 12 - 3 - i / 12);
        }
        for (int i = 0; i < 24; i++) {
            Check.due("each has its own", x.worthOf(i / 12, i % 12), i % 12 - 3 - i / 12);
        }
        x.mark(7, true);
        Check.due("7 is a MARK", x.value(0), 4);
        x.count(0, 2);
        Check.due("8 is COUNT 0", x.value(0), 4 + 10);
        Doc.says("BAD.");
        int[][] bad = {{-1, 0, 0}, {2, 0, 0}, {0, -1, 0}, {0, 12, 0}, {1, 12, 0}, {0, 7, 100}, {0, 7, -100}, {0, 8, 10},
            {0, 8, -10}, {1, 11, 99}, {0, 0, Integer.MIN_VALUE}};
        for (int[] b : bad) {
            Check.due("likes", x.likes(b[0], b[1], b[2]), -2);
        }
        for (int i = 0; i < 24; i++) {
            Check.due("all are as they were", x.worthOf(i / 12, i % 12), i % 12 - 3 - i / 12);
        }
    }

    private static void lock() {
        Doc.says("An ACT is LOCKED for a HALF, or not: 1; 0 if it was so.");
        AwakeByHalves x = new AwakeByHalves();
        for (int a = 0; a < 10; a++) {
            x.act(0, 0, 0, 1, 0, 0);
        }
        for (int a = 0; a < 10; a += 9) {
            for (int half = 0; half < 2; half++) {
                Check.due("it wasn't", x.lock(half, a, false), 0);
                Check.due("it is LOCKED", x.lock(half, a, true), 1);
                Check.due("it was", x.lock(half, a, true), 0);
                Check.due("for that HALF", x.actOf(a, 6), 1 + half);
                Check.due("so it CAN'T be", x.can(half), 1023 - (1 << a));
                Check.due("by the other it CAN", x.can(1 - half), 1023);
                Check.due("it isn't", x.lock(half, a, false), 1);
            }
        }
        Doc.says("BAD.");
        Check.due("HALF -1", x.lock(-1, 0, true), -2);
        Check.due("HALF 2", x.lock(2, 0, true), -2);
        Check.due("ACT -1", x.lock(0, -1, true), -2);
        Check.due("ACT 10", x.lock(0, 10, true), -2);
        Check.due("ACT 0 of none", new AwakeByHalves().lock(0, 0, false), -2);
        Check.due("nothing is LOCKED", x.status(4), 0);
    }

    private static void hide() {
        Doc.says("HIDDEN becomes a set: the one ahead.");
        AwakeByHalves x = new AwakeByHalves();
        Check.due("all", x.hide(255), 0);
        Check.due("one", x.hide(128), 255);
        Check.due("none", x.hide(0), 128);
        Check.due("none again", x.hide(0), 0);
        x.hide(17);
        Check.due("HIDDEN", x.stands(1), 17);
        Doc.says("BAD.");
        Check.due("-1", x.hide(-1), -2);
        Check.due("256", x.hide(256), -2);
        Check.due("HIDDEN is as it was", x.stands(1), 17);
    }
}
