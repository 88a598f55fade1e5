import java.lang.reflect.Method;
import java.util.ArrayList;
import java.util.Arrays;
import java.util.Comparator;
import java.util.List;
import java.util.Map;
import java.util.Random;

/** Random runs of calls on the class and on the slow Model: every answer the same. */
public final class ModelTest {
    /** For each method the least and the greatest of each argument that may be. */
    private static final Map<String, int[]> MAY = Map.ofEntries(
        Map.entry("row", new int[] {0, 7, 0, 4, 0, 40}), Map.entry("set", new int[] {0, 7, 0, 9, -3, 12}),
        Map.entry("copy", new int[] {0, 7, 0, 7, 0, 6, 0, 6, 0, 6}), Map.entry("element", new int[] {0, 7, 0, 9}),
        Map.entry("holds", new int[] {0, 7}), Map.entry("rule", new int[] {0, 7, 1, 6, 0, 99}),
        Map.entry("says", new int[] {0, 7, 0, 6}), Map.entry("act", new int[] {0, 5, 0, 7, 0, 3, 1, 9, 0, 255, 0, 255}),
        Map.entry("mark", new int[] {0, 7, 0, 1}), Map.entry("count", new int[] {0, 3, 0, 23}),
        Map.entry("likes", new int[] {0, 1, 0, 11, -9, 9}), Map.entry("lock", new int[] {0, 1, 0, 9, 0, 1}),
        Map.entry("hide", new int[] {0, 255}), Map.entry("feed", new int[] {0, 255}), Map.entry("wipe", new int[] {}),
        Map.entry("town", new int[] {}), Map.entry("actOf", new int[] {0, 9, 0, 6}),
        Map.entry("worthOf", new int[] {0, 1, 0, 11}), Map.entry("stands", new int[] {0, 6}),
        Map.entry("can", new int[] {0, 1}), Map.entry("value", new int[] {0, 1}), Map.entry("gain", new int[] {-1, 9}),
        Map.entry("does", new int[] {-1, 9}), Map.entry("next", new int[] {0, 7}),
        Map.entry("run", new int[] {0, 7, 0, 7, 0, 12, 0, 4}), Map.entry("head", new int[] {0, 7, 1, 5}),
        Map.entry("days", new int[] {0, 7, 0, 7, 1, 6}), Map.entry("gained", new int[] {0, 2}),
        Map.entry("judge", new int[] {0, 7, 0, 8}), Map.entry("told", new int[] {0, 7, 0, 4, 0, 2}),
        Map.entry("best", new int[] {1, 4, 0, 2}), Map.entry("against", new int[] {0, 7, 1, 4}),
        Map.entry("together", new int[] {1, 4}), Map.entry("harm", new int[] {1, 4}),
        Map.entry("work", new int[] {0, 255, 0, 1}), Map.entry("reach", new int[] {0, 4}),
        Map.entry("found", new int[] {}), Map.entry("say", new int[] {0, 8, 0, 1}),
        Map.entry("locking", new int[] {0, 9, 1, 4}), Map.entry("which", new int[] {1, 3}),
        Map.entry("up", new int[] {1, 3}), Map.entry("pact", new int[] {0, 7, 0, 7, 1, 4}),
        Map.entry("leap", new int[] {}), Map.entry("seed", new int[] {-9, 999999}), Map.entry("image", new int[] {}),
        Map.entry("back", new int[] {}), Map.entry("status", new int[] {0, 16}));
    private static final int[] FAR = {Integer.MIN_VALUE, -1000, -2, -1, 0, 1, 7, 8, 60, 61, 256, 1000, Integer.MAX_VALUE};
    /** Calls that change what there is come less often, so that there is something to be asked. */
    private static final List<String> CHANGES = List.of("row", "rule", "act", "lock", "wipe", "back", "leap", "mark", "count");

    private static final List<String> OF_ACTS = List.of("lock", "actOf", "gain", "does", "locking");

    private final Random random;
    private final AwakeByHalves x = new AwakeByHalves();
    private final Model model = new Model();
    private final StringBuilder said = new StringBuilder();

    private ModelTest(long seed) {
        random = new Random(seed);
    }

    public static void main(String[] args) throws Exception {
        int runs = args.length > 0 ? Integer.parseInt(args[0]) : 1500;
        long from = args.length > 1 ? Long.parseLong(args[1]) : 0;
        List<Method> methods = new ArrayList<>();
        for (Method m : AwakeByHalves.class.getDeclaredMethods()) {
            if (MAY.containsKey(m.getName()) && java.lang.reflect.Modifier.isPublic(m.getModifiers())) {
                methods.add(m);
            }
        }
        methods.sort(Comparator.comparing(Method::getName));
        Check.due("methods that are called", methods.size(), 47);
        for (int run = 0; run < runs; run++) {
            new ModelTest(from + run).go(methods);
        }
        Check.end("ModelTest");
    }

    private void go(List<Method> methods) throws Exception {
        prepare();
        int calls = 60 + random.nextInt(140);
        for (int c = 0; c < calls; c++) {
            Method m = methods.get(random.nextInt(methods.size()));
            if (CHANGES.contains(m.getName()) && random.nextInt(3) > 0) {
                continue;
            }
            if (m.getName().equals("town") && random.nextInt(4) > 0) {
                feed(text());
            }
            call(m, arguments(m));
        }
    }

    private int between(int least, int most) {
        return least + random.nextInt(most - least + 1);
    }

    private int smallSet() {
        return random.nextInt(3) == 0 ? 1 << random.nextInt(8) : 0;
    }

    /** A town of a few acts over few marks and counts, and rules, or nothing at all. */
    private void prepare() throws Exception {
        if (random.nextInt(20) == 0) {
            return;
        }
        int marks = between(1, 7);
        int counts = between(0, 3);
        int acts = between(1, 7);
        for (int a = 0; a < acts; a++) {
            say("act", between(0, 5), between(0, marks), between(0, counts), between(1, 9), smallSet(), smallSet());
        }
        for (int half = 0; half < 2; half++) {
            for (int what = 0; what < 12; what++) {
                int most = what < 8 ? random.nextBoolean() ? 99 : 3 : random.nextBoolean() ? 9 : 1;
                if (random.nextInt(4) > 0) {
                    say("likes", half, what, between(-most, most));
                }
            }
        }
        for (int c = 0; c < 4; c++) {
            say("count", c, between(0, 23));
        }
        for (int s = 0; s < 8; s++) {
            int sort = random.nextInt(4);
            if (sort < 2) {
                say("rule", s, between(1, 6), random.nextBoolean() ? between(0, 99) : between(0, 7));
            } else if (sort == 2) {
                say("row", s, between(0, 4), between(0, 10));
                for (int i = 0; i < 10; i++) {
                    say("set", s, i, between(-1, acts));
                }
            }
        }
        say("hide", random.nextInt(256));
    }

    private void say(String name, int... arguments) throws Exception {
        for (Method m : AwakeByHalves.class.getDeclaredMethods()) {
            if (m.getName().equals(name)) {
                Object[] boxed = new Object[arguments.length];
                for (int i = 0; i < boxed.length; i++) {
                    boxed[i] = boxed(m.getParameterTypes()[i], arguments[i]);
                }
                call(m, boxed);
                return;
            }
        }
        throw new IllegalStateException(name);
    }

    private Object boxed(Class<?> type, int v) {
        if (type == boolean.class) {
            return v > 0;
        }
        if (type == long.class) {
            return random.nextInt(6) == 0 ? random.nextLong() : Long.valueOf(v);
        }
        return v;
    }

    private Object[] arguments(Method m) {
        int[] may = MAY.get(m.getName());
        Object[] all = new Object[m.getParameterCount()];
        boolean isWild = random.nextInt(12) == 0;
        for (int i = 0; i < all.length; i++) {
            int v = between(may[2 * i], may[2 * i + 1]);
            if (m.getName().equals("act") && i > 3 || m.getName().equals("work") && i == 0 && random.nextInt(3) > 0) {
                v = smallSet() | smallSet();
            }
            if (may[2 * i + 1] == 9 && OF_ACTS.contains(m.getName()) && random.nextInt(8) > 0) {
                v = between(may[2 * i], Math.max(0, x.status(0) - 1));
            }
            if (isWild && random.nextInt(2) == 0) {
                int edge = random.nextInt(3);
                v = edge == 0 ? may[2 * i] - 1 : edge == 1 ? may[2 * i + 1] + 1 : FAR[random.nextInt(FAR.length)];
            }
            all[i] = boxed(m.getParameterTypes()[i], v);
        }
        return isDear(m.getName(), all) ? cheap(m, all) : all;
    }

    /** The model has no memory: long runs by it take too long. */
    private static boolean isDear(String name, Object[] all) {
        return (name.equals("run") || name.equals("days")) && (int) all[2] > 12 && (int) all[2] <= 60
            || name.equals("head") && (int) all[1] > 6 && (int) all[1] <= 60;
    }

    private static Object[] cheap(Method m, Object[] all) {
        all[m.getName().equals("head") ? 1 : 2] = 5;
        return all;
    }

    private String text() {
        String[] words = {"act", "mark", "count", "likes", "hates", "counts", "costs", "hides", "locks", "need", "bar", "acts", "a"};
        StringBuilder b = new StringBuilder();
        int statements = between(1, 5);
        for (int i = 0; i < statements; i++) {
            b.append(i > 0 ? ";" : "").append(blanks());
            int sort = random.nextInt(9);
            b.append(random.nextInt(40) == 0 ? words[random.nextInt(words.length)] : words[sort]).append(blanks());
            switch (sort) {
                case 0 -> {
                    b.append(n(5)).append(n(7)).append(n(3)).append(between(1, 9)).append(blanks());
                    while (random.nextInt(3) == 0) b.append("need").append(blanks()).append(n(7));
                    while (random.nextInt(3) == 0) b.append("bar").append(blanks()).append(n(7));
                    if (random.nextInt(40) == 0) b.append("need").append(n(7));
                }
                case 1, 7 -> b.append(n(7));
                case 2 -> b.append(n(3)).append(n(23));
                case 3, 4 -> b.append(n(1)).append(n(7)).append(n(99));
                case 5, 6 -> b.append(n(1)).append(n(3)).append(n(9));
                default -> b.append(n(1)).append(n(9));
            }
        }
        if (random.nextInt(12) == 0) b.append(';');
        if (random.nextInt(8) == 0) b.setCharAt(random.nextInt(b.length()), (char) random.nextInt(256));
        if (random.nextInt(12) == 0) b.setLength(random.nextInt(b.length()));
        return b.toString();
    }

    private String n(int most) {
        int v = random.nextInt(40) == 0 ? most + 1 : between(0, most);
        String zeros = random.nextInt(15) == 0 ? "0" : random.nextInt(60) == 0 ? "00" : "";
        return zeros + v + (random.nextInt(50) == 0 ? "" : " ") + blanks();
    }

    private String blanks() {
        return random.nextInt(6) == 0 ? "  " : " ".repeat(random.nextInt(30) == 0 ? 0 : 1);
    }

    private void feed(String text) {
        for (char c : text.toCharArray()) {
            Check.due("feed(" + (int) c + ")", x.feed(c), model.feed(c));
        }
        said.append("\"").append(text).append("\" ");
    }

    private void call(Method m, Object[] arguments) throws Exception {
        said.append(m.getName()).append(Arrays.toString(arguments)).append(' ');
        Object got = m.invoke(x, arguments);
        Object want = Model.class.getDeclaredMethod(m.getName(), m.getParameterTypes()).invoke(model, arguments);
        if (!got.equals(want)) {
            System.out.println(said);
        }
        Check.due(m.getName() + Arrays.toString(arguments), ((Number) got).longValue(), ((Number) want).longValue());
    }
}
