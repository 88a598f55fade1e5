import java.lang.reflect.Field;
import java.lang.reflect.Modifier;
import java.nio.file.Files;
import java.nio.file.Path;
import java.util.ArrayList;
import java.util.Arrays;
import java.util.HashSet;
import java.util.List;
import java.util.Map;
import java.util.Set;
import java.util.TreeMap;
import java.util.regex.Matcher;
import java.util.regex.Pattern;

/** The rules of LANGUAGE.md that can be seen in the text of the class; the number of the rule stands with each. */
public final class LanguageTest {
    private static final Set<String> LIBRARY = Set.of("Arrays.fill", "Arrays.copyOf", "Arrays.copyOfRange",
        "System.arraycopy", "Math.min", "Math.max", "Integer.bitCount");

    public static void main(String[] args) throws Exception {
        String root = System.getProperty("project.root", ".");
        String source = Files.readString(Path.of(root, "src/main/java/AwakeByHalves.java"));
        String code = withoutCommentsAndTexts(source);
        words(source, code);
        library(code);
        statics(code);
        methods(code);
        depths(bodies(code));
        fields();
        Check.end("LanguageTest");
    }

    private static String withoutCommentsAndTexts(String source) {
        String code = source.replaceAll("(?s)/\\*.*?\\*/", " ").replaceAll("//[^\n]*", " ");
        return code.replaceAll("\"(\\\\.|[^\"\\\\])*\"", "\"\"").replaceAll("'(\\\\.|[^'\\\\])'", "'x'");
    }

    private static void words(String source, String code) {
        String[] never = {"throw", "throws", "try", "catch", "finally", "synchronized", "assert", "package", "native",
            "volatile", "transient", "protected", "hashCode", "toString", "equals", "Object", "var", "goto", "yield"};
        for (String word : never) {
            Check.holds("6: no " + word, !Pattern.compile("\\b" + word + "\\b").matcher(code).find());
        }
        Check.holds("2: no lambda, no method reference", !code.contains("->") && !code.contains("::"));
        Check.holds("no annotation", !code.contains("@"));
        Check.holds("signs 1 to 127", source.chars().allMatch(c -> c > 0 && c < 128));
        Check.holds("10: texts are not joined by +", !code.contains("\" +") && !code.contains("+ \""));
        Check.holds("3: no arrays of three dimensions", !code.contains("[][][]"));
        Check.holds("5: no static initialiser block", !Pattern.compile("static\\s*\\{").matcher(code).find());
    }

    private static void library(String code) {
        Matcher m = Pattern.compile("import ([^;]+);").matcher(code);
        while (m.find()) {
            Check.holds("4: import " + m.group(1), m.group(1).equals("java.util.Arrays"));
        }
        m = Pattern.compile("\\b(Arrays|System|Math|Integer|Long|Character|String|List|Boolean|Double)\\.(\\w+)").matcher(code);
        while (m.find()) {
            Check.holds("4: " + m.group(), LIBRARY.contains(m.group()));
        }
    }

    private static void statics(String code) {
        Matcher m = Pattern.compile("static ([^;(){=]*)(=|;)").matcher(code);
        while (m.find()) {
            Check.holds("5: static is final: " + m.group(1), m.group(1).startsWith("final "));
        }
        m = Pattern.compile("(\\w+ )*class (\\w+)").matcher(code);
        int classes = 0;
        while (m.find()) {
            classes++;
            String mayBe = m.group(2).equals("AwakeByHalves") ? "public final class" : "private static final class";
            Check.holds("1, 2: " + m.group(), m.group().startsWith(mayBe));
        }
        Check.holds("11: classes", classes <= 12);
    }

    private static final Pattern METHOD = Pattern.compile(
        "(?m)^( +)((?:public |private |static |final )*)([\\w\\[\\]]+ )?(\\w+)\\(([^)]*)\\) \\{$");

    /** A method ends at the line with its own indent and a closing brace. */
    private static void methods(String code) {
        List<String> faces = new ArrayList<>();
        List<String> others = new ArrayList<>();
        Matcher m = METHOD.matcher(code);
        while (m.find()) {
            if (Set.of("if", "for", "while", "switch").contains(m.group(4)) || m.group(4).isEmpty()) {
                continue;
            }
            int end = code.indexOf("\n" + m.group(1) + "}", m.end());
            long lines = code.substring(m.start(), end).lines().count() + 1;
            Check.holds("11: " + m.group(4) + " has " + lines + " lines", lines <= 60);
            long parameters = m.group(5).isBlank() ? 0 : Arrays.stream(m.group(5).split(",")).count();
            Check.holds("11: " + m.group(4) + " has " + parameters + " parameters", parameters <= 7);
            (m.group(2).contains("public") ? faces : others).add(m.group(4));
        }
        Check.due("methods of the face, with the constructor", faces.size(), 48);
        for (String other : others) {
            Check.holds("1: no method of ours is called " + other, !faces.contains(other));
        }
        Check.holds("methods were found", others.size() > 40);
    }

    /** What stands in each method; methods of one name count as one, which makes chains longer, never shorter. */
    private static Map<String, String> bodies(String code) {
        Map<String, String> all = new TreeMap<>();
        Matcher m = METHOD.matcher(code);
        while (m.find()) {
            if (!Set.of("if", "for", "while", "switch").contains(m.group(4))) {
                int end = code.indexOf("\n" + m.group(1) + "}", m.end());
                all.merge(m.group(4), code.substring(m.end(), end), String::concat);
            }
        }
        return all;
    }

    private static void depths(Map<String, String> bodies) {
        Map<String, Set<String>> calls = new TreeMap<>();
        for (String name : bodies.keySet()) {
            Set<String> called = new HashSet<>();
            Matcher m = Pattern.compile("(?<!new )\\b(\\w+)\\(").matcher(bodies.get(name));
            while (m.find()) {
                if (bodies.containsKey(m.group(1))) {
                    called.add(m.group(1));
                }
            }
            calls.put(name, called);
        }
        int deepest = 0;
        for (String name : calls.keySet()) {
            int depth = deepest(name, calls, new HashSet<>());
            deepest = Math.max(deepest, depth);
            Check.holds("11: calls from " + name + " go " + depth + " deep", depth <= 8);
        }
        Check.holds("chains of calls were found", deepest > 4);
        Set<String> again = new HashSet<>();
        for (String name : calls.keySet()) {
            if (callsItself(name, name, calls, new HashSet<>())) {
                again.add(name);
            }
        }
        Set<String> known = Set.of("placeOf", "workOut", "mostAgainst", "mostOfBoth", "canStand", "marksWithin");
        Check.holds("8: methods that come to call themselves, each with a bound: " + again, known.equals(again));
    }

    /** How many methods stand open at most, a method that stands open already not being counted again. */
    private static int deepest(String name, Map<String, Set<String>> calls, Set<String> open) {
        open.add(name);
        int most = 0;
        for (String called : calls.get(name)) {
            if (!open.contains(called)) {
                most = Math.max(most, deepest(called, calls, open));
            }
        }
        open.remove(name);
        return 1 + most;
    }

    private static boolean callsItself(String first, String at, Map<String, Set<String>> calls, Set<String> seen) {
        for (String called : calls.get(at)) {
            if (called.equals(first) || seen.add(called) && callsItself(first, called, calls, seen)) {
                return true;
            }
        }
        return false;
    }

    private static void fields() {
        List<Class<?>> classes = new ArrayList<>(Arrays.asList(AwakeByHalves.class.getDeclaredClasses()));
        classes.add(AwakeByHalves.class);
        for (Class<?> c : classes) {
            int own = 0;
            for (Field f : c.getDeclaredFields()) {
                own += Modifier.isStatic(f.getModifiers()) ? 0 : 1;
                boolean isPlain = f.getType().isPrimitive() || f.getType() == String.class || f.getType() == int[].class;
                Check.holds("5: " + f, !Modifier.isStatic(f.getModifiers()) || Modifier.isFinal(f.getModifiers()) && isPlain);
            }
            Check.holds("11: " + c.getName() + " has " + own + " fields", own <= 20);
        }
    }
}
