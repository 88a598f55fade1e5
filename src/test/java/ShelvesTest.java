/** Promises 2 to 8: rows, what they keep, and rules on shelves. */
public final class ShelvesTest {
    public static void main(String[] args) {
        row();
        set();
        copy();
        element();
        holds();
        rule();
        says();
        saysActs();
        Check.end("ShelvesTest");
    }

    private static void row() {
        AwakeByHalves x = new AwakeByHalves();
        Check.due("row(0, 0, 40)", x.row(0, 0, 40), 1);
        Check.due("row(7, 4, 0)", x.row(7, 4, 0), 1);
        Check.due("set in the last", x.set(0, 39, 5), 1);
        Check.due("element(0, 39)", x.element(0, 39), 5);
        Check.due("shelf -1", x.row(-1, 0, 0), -2);
        Check.due("shelf 8", x.row(8, 0, 0), -2);
        Check.due("sort -1", x.row(0, -1, 0), -2);
        Check.due("sort 5", x.row(0, 5, 0), -2);
        Check.due("n -1", x.row(0, 0, -1), -2);
        Check.due("n 41", x.row(0, 0, 41), -2);
        Check.due("a refused row changes nothing", x.element(0, 39), 5);
        Check.due("a new row", x.row(0, 0, 40), 1);
        Check.due("is all 0", x.element(0, 39), 0);
        Check.due("a shorter row", x.row(0, 2, 3), 1);
        Check.due("has no more than that", x.set(0, 3, 1), -2);
        Check.due("a row in a rule's place", x.rule(1, 6, 0) + x.row(1, 3, 1), 2);
        Check.due("holds(1)", x.holds(1), 3);
        Check.due("refusals", x.status(12), 7);
    }

    private static void keeps(int sort, long v, long want) {
        AwakeByHalves x = new AwakeByHalves();
        x.row(3, sort, 2);
        Check.due("set", x.set(3, 1, v), 1);
        Check.due("sort " + sort + " keeps of " + v, x.element(3, 1), want);
        Check.due("and leaves the other", x.element(3, 0), 0);
    }

    private static void set() {
        keeps(0, 127, 127);
        keeps(0, 200, -56);
        keeps(0, 256, 0);
        keeps(0, -129, 127);
        keeps(1, 40000, -25536);
        keeps(1, 65536, 0);
        keeps(1, -32768, -32768);
        keeps(2, 1L << 31, Integer.MIN_VALUE);
        keeps(2, (1L << 32) + 7, 7);
        keeps(3, Long.MIN_VALUE, Long.MIN_VALUE);
        keeps(3, (1L << 32) + 7, (1L << 32) + 7);
        keeps(4, 0, 0);
        keeps(4, 2, 1);
        keeps(4, -1, 1);
        keeps(4, 1L << 40, 1);
        AwakeByHalves x = new AwakeByHalves();
        Check.due("shelf -1", x.set(-1, 0, 0), -2);
        Check.due("shelf 8", x.set(8, 0, 0), -2);
        Check.due("NOTHING comes ahead of a bad i", x.set(0, -1, 0), -4);
        x.rule(0, 1, 0);
        Check.due("OTHER comes ahead of a bad i", x.set(0, 99, 0), -3);
        x.row(0, 3, 2);
        Check.due("i -1", x.set(0, -1, 0), -2);
        Check.due("i 2 of 2", x.set(0, 2, 0), -2);
        x.row(0, 3, 0);
        Check.due("i 0 of none", x.set(0, 0, 0), -2);
    }

    private static void fill(AwakeByHalves x, int s) {
        for (int i = 0; i < 5; i++) {
            x.set(s, i, 10 + i);
        }
    }

    private static void isRow(AwakeByHalves x, int s, long... want) {
        for (int i = 0; i < want.length; i++) {
            Check.due("element(" + s + ", " + i + ")", x.element(s, i), want[i]);
        }
    }

    private static void copy() {
        AwakeByHalves x = new AwakeByHalves();
        x.row(0, 2, 5);
        x.row(1, 2, 3);
        fill(x, 0);
        Check.due("copy", x.copy(0, 1, 3, 1, 2), 2);
        isRow(x, 1, 0, 13, 14);
        isRow(x, 0, 10, 11, 12, 13, 14);
        Check.due("copy upwards over itself", x.copy(0, 0, 0, 1, 4), 4);
        isRow(x, 0, 10, 10, 11, 12, 13);
        fill(x, 0);
        Check.due("copy downwards over itself", x.copy(0, 0, 2, 0, 3), 3);
        isRow(x, 0, 12, 13, 14, 13, 14);
        Check.due("none of them, at the ends", x.copy(0, 1, 5, 3, 0), 0);
        Check.due("n -1", x.copy(0, 1, 0, 0, -1), -2);
        Check.due("i -1", x.copy(0, 1, -1, 0, 1), -2);
        Check.due("j -1", x.copy(0, 1, 0, -1, 1), -2);
        Check.due("beyond the first", x.copy(0, 1, 4, 0, 2), -2);
        Check.due("beyond the second", x.copy(0, 1, 0, 2, 2), -2);
        Check.due("i 6", x.copy(0, 1, 6, 0, 0), -2);
        Check.due("j 4", x.copy(0, 1, 0, 4, 0), -2);
        Check.due("numbers that would wrap", x.copy(0, 1, Integer.MAX_VALUE, 0, Integer.MAX_VALUE), -2);
        isRow(x, 1, 0, 13, 14);
        Check.due("shelf 8", x.copy(8, 1, 0, 0, 0), -2);
        Check.due("shelf -1", x.copy(0, -1, 0, 0, 0), -2);
        Check.due("NOTHING, ahead of bad places", x.copy(0, 2, -1, 0, 0), -4);
        Check.due("NOTHING the other way", x.copy(2, 0, 0, 0, 1), -4);
        Check.due("NOTHING in both", x.copy(2, 3, 0, 0, 1), -4);
        x.row(2, 3, 5);
        Check.due("two sorts, ahead of bad places", x.copy(0, 2, -1, 0, 0), -3);
        x.rule(4, 1, 0);
        Check.due("a rule and NOTHING", x.copy(4, 5, 0, 0, 0), -3);
        Check.due("NOTHING and a rule", x.copy(5, 4, 0, 0, 0), -3);
        Check.due("a row and a rule", x.copy(0, 4, 0, 0, 0), -3);
    }

    private static void element() {
        AwakeByHalves x = new AwakeByHalves();
        x.row(0, 3, 2);
        x.set(0, 1, 77);
        x.rule(1, 1, 5);
        Check.due("element(0, 1)", x.element(0, 1), 77);
        Check.due("no such element", x.element(0, 2), 0);
        Check.due("element -1", x.element(0, -1), 0);
        Check.due("of a rule", x.element(1, 0), 0);
        Check.due("of NOTHING", x.element(2, 0), 0);
        Check.due("of no shelf", x.element(8, 0) + x.element(-1, 0), 0);
        x.set(0, 0, 9);
        x.rule(0, 1, 0);
        Check.due("of a rule in a row's place", x.element(0, 0), 0);
        for (int what = 12; what <= 16; what++) {
            Check.due("nothing was refused", x.status(what), 0);
        }
    }

    private static void holds() {
        AwakeByHalves x = new AwakeByHalves();
        for (int sort = 0; sort < 5; sort++) {
            x.row(sort, sort, 1);
            Check.due("a row of sort " + sort, x.holds(sort), sort);
        }
        for (int kind = 1; kind <= 6; kind++) {
            x.rule(kind, kind, 0);
            Check.due("a rule of kind " + kind, x.holds(kind), 10 + kind);
        }
        Check.due("NOTHING", x.holds(7), -1);
        Check.due("no shelf", x.holds(8), -1);
        Check.due("no shelf", x.holds(-1), -1);
        Check.due("nothing was refused", x.status(12), 0);
    }

    private static void rule() {
        AwakeByHalves x = new AwakeByHalves();
        Check.due("rule(0, 1, 0)", x.rule(0, 1, 0), 1);
        Check.due("rule(7, 6, 99)", x.rule(7, 6, 99), 1);
        Check.due("its a", x.says(7, 0), 99);
        Check.due("shelf -1", x.rule(-1, 1, 0), -2);
        Check.due("shelf 8", x.rule(8, 1, 0), -2);
        Check.due("kind 0", x.rule(0, 0, 0), -2);
        Check.due("kind 7", x.rule(0, 7, 0), -2);
        Check.due("a -1", x.rule(0, 1, -1), -2);
        Check.due("a 100", x.rule(0, 1, 100), -2);
        Check.due("the rule is as it was", x.holds(0), 11);
    }

    /** Each kind is under itself, RULE, and: KIND under OWN, PACT under KIND and OWN, IDLE under OWN. */
    private static void says() {
        String[] under = {"", "01", "012", "03", "0124", "015", "06"};
        AwakeByHalves x = new AwakeByHalves();
        for (int kind = 1; kind <= 6; kind++) {
            x.rule(0, kind, 40 + kind);
            Check.due("RULE's a", x.says(0, 0), 40 + kind);
            for (int as = 1; as <= 6; as++) {
                boolean is = under[kind].indexOf('0' + as) >= 0;
                Check.due("a rule " + kind + " taken for " + as, x.says(0, as), is ? -1 : -3);
            }
        }
        Check.due("kind -1", x.says(0, -1), -2);
        Check.due("kind 7", x.says(0, 7), -2);
        Check.due("shelf 8", x.says(8, 0), -2);
        Check.due("shelf -1", x.says(-1, 0), -2);
        Check.due("NOTHING", x.says(1, 0), -4);
        x.row(1, 0, 0);
        Check.due("a row", x.says(1, 0), -3);
        Check.due("BAD ahead of OTHER", x.says(1, 7), -2);
    }

    /** Act 0 is best for half 0, act 1 for both together: each rule says its own act, whatever it is taken for. */
    private static void saysActs() {
        AwakeByHalves x = new AwakeByHalves();
        x.act(1, 0, 0, 1, 0, 0);
        x.act(1, 1, 0, 1, 0, 0);
        x.likes(0, 0, 5);
        x.likes(0, 1, 4);
        x.likes(1, 1, 9);
        x.rule(0, 1, 0);
        x.rule(1, 2, 0);
        x.rule(2, 4, 50);
        x.rule(3, 4, 51);
        x.rule(4, 5, 5);
        Check.due("OWN", x.says(0, 1), 0);
        Check.due("KIND as KIND", x.says(1, 2), 1);
        Check.due("KIND as OWN", x.says(1, 1), 1);
        Check.due("a content PACT as PACT", x.says(2, 4), 1);
        Check.due("a content PACT as KIND", x.says(2, 2), 1);
        Check.due("a content PACT as OWN", x.says(2, 1), 1);
        Check.due("another PACT as KIND", x.says(3, 2), 0);
        Check.due("IDLE as IDLE", x.says(4, 5), -1);
        Check.due("IDLE as OWN", x.says(4, 1), -1);
    }
}
