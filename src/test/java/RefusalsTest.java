import java.io.IOException;
import java.lang.reflect.Method;

/** The document's REFUSALS, sentence by sentence, and every call that can be refused, in each way that its line has. */
public final class RefusalsTest {
    public static void main(String[] args) throws Exception {
        answers();
        nothingChanges();
        theFirstThatFits();
        bad();
        other();
        nothing();
        stuck();
        full();
        gains();
        Doc.end("RefusalsTest", "REFUSALS (", "## Promise 1:");
    }

    /**
     * SHELF 0 has a LOW, 1 three ints, 2 NOTHING, 3 five bytes; ACT 0 CAN be, ACT 1 CAN'T and is LOCKED for HALF 1; nothing
     * was done, nothing is kept.
     */
    private static AwakeByHalves small() {
        AwakeByHalves x = new AwakeByHalves();
        Check.town(x, "act 1 0 0 1;act 2 1 0 1;locks 1 1;mark 5;count 2 7;likes 0 5 9;costs 1 2 3;hides 5");
        x.rule(0, 6, 31);
        x.row(1, 2, 3);
        x.set(1, 1, 1);
        x.set(1, 2, 77);
        x.row(3, 0, 5);
        x.seed(99);
        Check.feed(x, "mark 3");
        return x;
    }

    /** The same with ten ACTS and a TAPE of 250 bytes. */
    private static AwakeByHalves filled() {
        AwakeByHalves x = small();
        for (int a = 2; a < 10; a++) {
            x.act(0, 0, 0, 1, 0, 0);
        }
        Check.feed(x, " ".repeat(244));
        return x;
    }

    /** A call as it is written, of numbers and truths alone. */
    private static long call(AwakeByHalves x, String text) throws Exception {
        String name = text.substring(0, text.indexOf('('));
        String inside = text.substring(name.length() + 1, text.length() - 1);
        String[] parts = inside.isEmpty() ? new String[0] : inside.split(", *");
        for (Method m : AwakeByHalves.class.getDeclaredMethods()) {
            if (m.getName().equals(name) && m.getParameterCount() == parts.length) {
                Object[] arguments = new Object[parts.length];
                for (int i = 0; i < parts.length; i++) {
                    Class<?> type = m.getParameterTypes()[i];
                    arguments[i] = type == boolean.class ? (Object) Boolean.valueOf(parts[i])
                        : type == long.class ? (Object) Long.valueOf(parts[i]) : (Object) Integer.valueOf(parts[i]);
                }
                return ((Number) m.invoke(x, arguments)).longValue();
            }
        }
        throw new IOException("no such call: " + text);
    }

    /** Calls that are refused by a number: they answer it, it alone is counted, nothing else changes. */
    private static void refused(AwakeByHalves x, int number, boolean areGains, String... calls) throws Exception {
        for (String text : calls) {
            String before = AnyArgumentsTest.all(x);
            int[] counted = new int[5];
            for (int i = 0; i < 5; i++) {
                counted[i] = x.status(12 + i) + (number == -2 - i ? 1 : 0);
            }
            Check.due(text, call(x, text), (areGains ? -1000000 : 0) + number);
            Check.holds(text + " changed something", before.equals(AnyArgumentsTest.all(x)));
            for (int i = 0; i < 5; i++) {
                Check.due("status(" + (12 + i) + ") behind " + text, x.status(12 + i), counted[i]);
            }
        }
    }

    private static void answers() throws Exception {
        Doc.says("REFUSALS (the call answers the number;");
        refused(small(), -2, false, "mark(8, true)", "row(0, 0, 41)");
        refused(small(), -3, false, "next(1)", "set(0, 0, 0)");
        refused(small(), -4, false, "next(2)", "set(2, 0, 0)");
        refused(small(), -5, false, "does(1)", "back()");
        refused(filled(), -6, false, "act(0, 0, 0, 1, 0, 0)", "feed(0)");
    }

    private static void nothingChanges() throws Exception {
        Doc.says("nothing changes but how many there were;");
        AwakeByHalves x = small();
        x.does(0);
        x.image();
        x.does(-1);
        x.lock(1, 1, false);
        x.does(-1);
        Check.due("FOUND ahead", x.found(), 1024);
        // were one of these taken, FOUND would be STUCK
        refused(x, -2, false, "act(0, 0, 0, 0, 0, 0)", "mark(-1, false)", "count(0, 24)", "lock(0, 2, true)", "hide(256)");
        refused(x, -2, true, "gained(3)", "best(5, 2)", "together(0)");
        refused(x, -5, false, "does(1)");
        Check.due("FOUND is as it was", x.found(), 1024);
        Check.due("what is kept is as it was", x.back(), 1);
        Check.due("FOUND as it was kept", x.found(), 1);
        for (int i = 0; i < 3; i++) {
            x.stands(7);
        }
        Check.due("how many there were", x.status(12), 5 + 3 + 3);
        Check.due("and another", x.status(15), 1);
    }

    private static void theFirstThatFits() throws Exception {
        Doc.says("the first that fits as each line has them):");
        AwakeByHalves x = small();
        // BAD SHELF; OTHER; NOTHING; BAD the rest
        refused(x, -2, false, "set(8, 99, 0)", "copy(8, 0, 0, 0, 0)", "copy(2, -1, 0, 0, 0)", "judge(8, 0)");
        refused(x, -3, false, "set(0, 99, 0)", "copy(0, 2, 99, 0, 0)", "copy(2, 0, 0, 99, 0)", "copy(1, 3, -1, -1, -1)", "judge(0, 20)");
        refused(x, -4, false, "set(2, 99, 0)", "copy(1, 2, -1, 0, 0)", "copy(2, 3, 0, 0, 99)", "judge(2, 20)");
        // BAD any number; OTHER; NOTHING
        refused(x, -2, false, "says(1, 7)", "says(2, -1)", "head(2, 0)", "head(1, 61)", "days(1, 2, 0)", "days(2, 2, 21)",
            "judge(0, 21)", "judge(2, -1)", "pact(1, 2, 0)", "pact(2, 2, 5)", "days(8, 1, 1)", "pact(1, 8, 1)", "pact(-1, 2, 1)");
        refused(x, -2, true, "run(1, 2, 61, 0)", "run(2, 2, 0, 5)", "run(8, 1, 1, 0)", "run(2, -1, 1, 0)", "told(0, 21, 0)",
            "told(2, 0, 3)", "against(1, 0)", "against(2, 5)");
        refused(x, -3, false, "days(1, 2, 1)", "days(2, 1, 1)", "pact(1, 2, 1)", "pact(2, 1, 1)");
        refused(x, -3, true, "run(1, 2, 1, 0)", "run(2, 1, 1, 0)");
        // BAD; STUCK, and BAD; FULL
        refused(x, -2, false, "say(9, 0)", "say(0, 2)", "does(2)");
        refused(x, -2, true, "gain(2)", "locking(1, 0)", "locking(1, 5)", "told(1, 4, 0)");
        refused(filled(), -2, false, "act(6, 0, 0, 1, 0, 0)", "act(0, 0, 0, 1, 0, 256)", "feed(256)", "feed(-1)");
    }

    private static void bad() throws Exception {
        Doc.says("-2 BAD a number that may not be, nothing of that number.");
        refused(small(), -2, false,
            "row(-1, 0, 0)", "row(8, 0, 0)", "row(0, -1, 0)", "row(0, 5, 0)", "row(0, 0, -1)", "row(0, 0, 41)",
            "set(-1, 0, 0)", "set(8, 0, 0)", "set(1, -1, 0)", "set(1, 3, 0)",
            "copy(-1, 1, 0, 0, 0)", "copy(8, 1, 0, 0, 0)", "copy(1, -1, 0, 0, 0)", "copy(1, 8, 0, 0, 0)",
            "copy(1, 1, -1, 0, 1)", "copy(1, 1, 0, -1, 1)", "copy(1, 1, 0, 0, -1)", "copy(1, 1, 0, 0, 4)",
            "copy(1, 1, 1, 0, 3)", "copy(1, 1, 0, 1, 3)", "copy(3, 3, 5, 0, 1)", "copy(3, 3, 0, 5, 1)",
            "rule(-1, 1, 0)", "rule(8, 1, 0)", "rule(0, 0, 0)", "rule(0, 7, 0)", "rule(0, 1, -1)", "rule(0, 1, 100)",
            "says(-1, 0)", "says(8, 0)", "says(0, -1)", "says(0, 7)",
            "act(-1, 0, 0, 1, 0, 0)", "act(6, 0, 0, 1, 0, 0)", "act(0, -1, 0, 1, 0, 0)", "act(0, 8, 0, 1, 0, 0)",
            "act(0, 0, -1, 1, 0, 0)", "act(0, 0, 4, 1, 0, 0)", "act(0, 0, 0, 0, 0, 0)", "act(0, 0, 0, 10, 0, 0)",
            "act(0, 0, 0, 1, -1, 0)", "act(0, 0, 0, 1, 256, 0)", "act(0, 0, 0, 1, 0, -1)", "act(0, 0, 0, 1, 0, 256)",
            "mark(-1, true)", "mark(8, true)", "count(-1, 0)", "count(4, 0)", "count(0, -1)", "count(0, 24)",
            "likes(-1, 0, 0)", "likes(2, 0, 0)", "likes(0, -1, 0)", "likes(0, 12, 0)", "likes(0, 7, 100)",
            "likes(0, 7, -100)", "likes(1, 8, 10)", "likes(1, 8, -10)", "likes(1, 11, 10)",
            "lock(-1, 0, true)", "lock(2, 0, true)", "lock(0, -1, true)", "lock(0, 2, true)", "hide(-1)", "hide(256)",
            "feed(-1)", "feed(256)", "actOf(-1, 0)", "actOf(2, 0)", "actOf(0, -1)", "actOf(0, 7)", "stands(-1)", "stands(7)",
            "can(-1)", "can(2)", "does(-2)", "does(2)", "next(-1)", "next(8)", "head(-1, 1)", "head(8, 1)", "head(0, 0)",
            "head(0, 61)", "days(-1, 0, 1)", "days(0, 8, 1)", "days(0, 0, 0)", "days(0, 0, 21)", "judge(-1, 0)", "judge(8, 0)",
            "judge(1, -1)", "judge(1, 21)", "judge(1, 4)", "work(-1, true)", "work(256, false)", "reach(-1)", "reach(5)",
            "say(-1, 0)", "say(9, 0)", "say(0, -1)", "say(0, 2)", "which(0)", "which(5)", "pact(-1, 0, 1)", "pact(0, 8, 1)",
            "pact(0, 0, 0)", "pact(0, 0, 5)");
        int far = Integer.MIN_VALUE;
        refused(small(), -2, false, "copy(1, 1, 2147483647, 0, 2147483647)", "copy(1, 1, " + far + ", 0, " + far + ")",
            "set(1, 2147483647, 0)", "does(" + far + ")", "work(" + far + ", true)", "hide(2147483647)");
    }

    private static void other() throws Exception {
        Doc.says("-3 OTHER: a SHELF that holds another thing than is wanted.");
        refused(small(), -3, false, "set(0, 0, 0)", "copy(0, 1, 0, 0, 0)", "copy(1, 0, 0, 0, 0)", "copy(0, 0, 0, 0, 0)",
            "copy(1, 3, 0, 0, 0)", "says(1, 0)", "says(0, 1)", "says(0, 3)", "next(1)", "head(1, 1)", "days(0, 1, 1)",
            "days(1, 0, 1)", "judge(0, 0)", "pact(0, 1, 1)", "pact(3, 0, 1)");
        refused(small(), -3, true, "run(0, 1, 1, 0)", "run(3, 0, 0, 4)", "told(0, 0, 0)", "against(1, 1)");
    }

    private static void nothing() throws Exception {
        Doc.says("-4 NOTHING: a SHELF that holds NOTHING.");
        refused(small(), -4, false, "set(2, 0, 0)", "copy(1, 2, 0, 0, 0)", "copy(7, 1, 0, 0, 0)", "copy(2, 2, 0, 0, 0)",
            "says(2, 0)", "next(7)", "head(2, 1)", "days(0, 2, 1)", "days(2, 0, 1)", "judge(2, 0)", "pact(0, 2, 1)", "pact(2, 0, 1)");
        refused(small(), -4, true, "run(0, 2, 1, 0)", "run(2, 0, 0, 4)", "run(2, 2, 1, 0)", "told(2, 0, 0)", "against(2, 1)");
    }

    private static void stuck() throws Exception {
        Doc.says("-5 STUCK: it can't be as things stand.");
        refused(small(), -5, false, "does(1)", "found()", "say(0, 0)", "say(8, 1)", "back()");
        AwakeByHalves x = small();
        x.set(1, 0, 1);
        refused(x, -5, true, "gain(1)", "told(1, 1, 0)", "told(1, 3, 2)", "locking(1, 1)", "locking(1, 4)");
    }

    private static void full() throws Exception {
        Doc.says("-6 FULL.");
        refused(filled(), -6, false, "act(0, 0, 0, 1, 0, 0)", "act(5, 7, 3, 9, 255, 255)", "feed(0)", "feed(255)");
    }

    private static void gains() throws Exception {
        Doc.says("(Calls that tell GAINS, VALUES, which may be below 0, answer -1000000 and the number.)");
        refused(small(), -2, true, "worthOf(-1, 0)", "worthOf(2, 0)", "worthOf(0, -1)", "worthOf(0, 12)", "value(-1)", "value(2)",
            "gain(-2)", "gain(2)", "run(-1, 0, 1, 0)", "run(8, 0, 1, 0)", "run(0, -1, 1, 0)", "run(0, 8, 1, 0)",
            "run(0, 0, -1, 0)", "run(0, 0, 61, 0)", "run(0, 0, 1, -1)", "run(0, 0, 1, 5)", "gained(-1)", "gained(3)",
            "told(-1, 0, 0)", "told(8, 0, 0)", "told(1, -1, 0)", "told(1, 21, 0)", "told(1, 4, 0)", "told(1, 0, -1)",
            "told(1, 0, 3)", "best(0, 0)", "best(5, 0)", "best(1, -1)", "best(1, 3)", "against(-1, 1)", "against(8, 1)",
            "against(0, 0)", "against(0, 5)", "together(0)", "together(5)", "harm(0)", "harm(5)", "locking(-1, 1)",
            "locking(2, 1)", "locking(0, 0)", "locking(0, 5)", "up(0)", "up(4)");
        refused(small(), -5, true, "gain(1)", "locking(1, 1)");
    }
}
