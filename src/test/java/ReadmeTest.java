import java.lang.reflect.Method;
import java.lang.reflect.Modifier;
import java.nio.file.Files;
import java.nio.file.Path;
import java.util.regex.Matcher;
import java.util.regex.Pattern;
import java.util.stream.Stream;

/** README.md: its examples answer what it says they do, and it names every call and every test. */
public final class ReadmeTest {
    private static final Pattern CALL = Pattern.compile("(?m)^x\\.(\\w+)\\(([^)]*)\\); +// (?:(-?\\d+):)?.*$");
    private static final Pattern TEXT = Pattern.compile("feed `([^`]+)`");

    public static void main(String[] args) throws Exception {
        Path root = Path.of(System.getProperty("project.root", "."));
        String readme = Files.readString(root.resolve("README.md"));
        exampleAnswers(readme);
        textIsTheSameTown(readme);
        namesEveryCall(readme);
        namesEveryTest(readme, root);
        Check.end("ReadmeTest");
    }

    private static void exampleAnswers(String readme) throws Exception {
        AwakeByHalves x = new AwakeByHalves();
        Matcher m = CALL.matcher(readme);
        int told = 0;
        while (m.find()) {
            long got = call(x, m.group(1), m.group(2));
            if (m.group(3) != null) {
                told++;
                Check.due(m.group(1) + "(" + m.group(2) + ")", got, Long.parseLong(m.group(3)));
            }
        }
        Check.holds("answers are told in the example", told > 3);
    }

    private static long call(AwakeByHalves x, String name, String list) throws Exception {
        String[] texts = list.isBlank() ? new String[0] : list.split(", *");
        for (Method m : AwakeByHalves.class.getDeclaredMethods()) {
            if (Modifier.isPublic(m.getModifiers()) && m.getName().equals(name) && m.getParameterCount() == texts.length) {
                Object[] arguments = new Object[texts.length];
                for (int i = 0; i < texts.length; i++) {
                    arguments[i] = argument(m.getParameterTypes()[i], texts[i]);
                }
                return ((Number) m.invoke(x, arguments)).longValue();
            }
        }
        Check.holds("there is a call " + name + " with " + texts.length + " arguments", false);
        return 0;
    }

    private static Object argument(Class<?> type, String text) {
        if (type == boolean.class) {
            return Boolean.valueOf(text);
        }
        return type == long.class ? (Object) Long.valueOf(text) : (Object) Integer.valueOf(text);
    }

    /** The town of the text has the acts and worths that the example's first calls make. */
    private static void textIsTheSameTown(String readme) throws Exception {
        Matcher text = TEXT.matcher(readme);
        Check.holds("a text to feed", text.find());
        AwakeByHalves fed = new AwakeByHalves();
        int statements = Check.town(fed, text.group(1));
        Check.due("statements", statements, text.group(1).split(";").length);
        AwakeByHalves called = new AwakeByHalves();
        Matcher m = CALL.matcher(readme);
        for (int i = 0; i < statements && m.find(); i++) {
            call(called, m.group(1), m.group(2));
        }
        Check.holds("the same town", AnyArgumentsTest.all(fed).equals(AnyArgumentsTest.all(called)));
    }

    private static void namesEveryCall(String readme) {
        for (Method m : AwakeByHalves.class.getDeclaredMethods()) {
            if (Modifier.isPublic(m.getModifiers())) {
                boolean isNamed = Pattern.compile("`" + m.getName() + "`").matcher(readme).find();
                Check.holds("README.md names `" + m.getName() + "`", isNamed);
            }
        }
    }

    private static void namesEveryTest(String readme, Path root) throws Exception {
        try (Stream<Path> files = Files.list(root.resolve("src/test/java"))) {
            for (Path file : files.toList()) {
                String name = file.getFileName().toString().replace(".java", "");
                Check.holds("README.md names " + name, Pattern.compile("\\b" + name + "\\b").matcher(readme).find());
            }
        }
    }
}
