import java.lang.reflect.Method;
import java.lang.reflect.Modifier;
import java.util.Arrays;
import java.util.Random;

/** Refusals: whatever the arguments, no call throws; a refused call changes nothing but how many there were. */
public final class AnyArgumentsTest {
    private static final int[] FAR = {Integer.MIN_VALUE, Integer.MIN_VALUE + 1, -1000000, -257, -100, -10, -3, -2, -1, 0, 1,
        2, 3, 4, 5, 6, 7, 8, 9, 10, 11, 12, 16, 20, 21, 23, 24, 40, 41, 60, 61, 99, 100, 255, 256, 1 << 29,
        Integer.MAX_VALUE - 1, Integer.MAX_VALUE};

    public static void main(String[] args) throws Exception {
        for (int run = 0; run < 400; run++) {
            go(new Random(run));
        }
        Check.end("AnyArgumentsTest");
    }

    private static void go(Random random) throws Exception {
        AwakeByHalves x = new AwakeByHalves();
        if (random.nextBoolean()) {
            Check.town(x, "act 1 0 0 1;act 2 0 0 1;act 0 1 1 3;act 4 2 1 2 need 0;act 5 2 1 2;act 3 3 0 1 bar 1;"
                + "likes 0 0 9;likes 1 2 8;hates 0 2 4;costs 1 1 1;counts 0 1 2;hides 2;locks 0 5");
            for (int kind = 1; kind <= 6; kind++) {
                x.rule(kind - 1, kind, random.nextInt(100));
            }
            x.row(6, random.nextInt(5), 20);
        }
        Method[] methods = AwakeByHalves.class.getDeclaredMethods();
        Arrays.sort(methods, (a, b) -> a.getName().compareTo(b.getName()));
        for (int c = 0; c < 150; c++) {
            Method m = methods[random.nextInt(methods.length)];
            if (Modifier.isPublic(m.getModifiers()) && !m.isSynthetic()) {
                call(x, m, random);
            }
        }
    }

    private static void call(AwakeByHalves x, Method m, Random random) throws Exception {
        Object[] arguments = new Object[m.getParameterCount()];
        for (int i = 0; i < arguments.length; i++) {
            Class<?> type = m.getParameterTypes()[i];
            int v = FAR[random.nextInt(FAR.length)];
            arguments[i] = type == boolean.class ? (Object) random.nextBoolean() : type == long.class ? (Object) random.nextLong() : (Object) v;
        }
        String before = all(x);
        int refusals = refusals(x);
        // a refused town() empties the tape all the same
        Object got = m.invoke(x, arguments);
        boolean isRefused = refusals(x) > refusals;
        if (isRefused && !m.getName().equals("town")) {
            Check.holds(m.getName() + Arrays.toString(arguments) + " changed something", before.equals(all(x)));
            long number = ((Number) got).longValue();
            number = number < -999999 ? number + 1000000 : number;
            Check.holds(m.getName() + " answers a refusal: " + number, number <= -2 && number >= -6);
            Check.due("one refusal", refusals(x) - refusals, 1);
        }
    }

    private static int refusals(AwakeByHalves x) {
        int sum = 0;
        for (int what = 12; what <= 16; what++) {
            sum += x.status(what);
        }
        return sum;
    }

    /** All that can be asked without a refusal. */
    static String all(AwakeByHalves x) {
        StringBuilder b = new StringBuilder();
        for (int what = 0; what < 8; what++) {
            b.append(x.status(what)).append(' ');
        }
        for (int what = 0; what <= 6; what++) {
            b.append(x.stands(what)).append(' ');
        }
        for (int act = 0; act < x.status(0); act++) {
            for (int what = 0; what <= 6; what++) {
                b.append(x.actOf(act, what)).append(' ');
            }
        }
        for (int what = 0; what < 12; what++) {
            b.append(x.worthOf(0, what)).append(' ').append(x.worthOf(1, what)).append(' ');
        }
        for (int s = 0; s < 8; s++) {
            b.append(x.holds(s)).append(' ').append(x.holds(s) > 10 ? x.says(s, 0) : 0).append(' ');
            for (int i = 0; i < 40; i++) {
                b.append(x.element(s, i)).append(' ');
            }
        }
        return b.append(x.gained(0)).append(' ').append(x.gained(1)).toString();
    }
}
