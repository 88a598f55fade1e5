import java.lang.reflect.Constructor;
import java.lang.reflect.Field;
import java.lang.reflect.Method;
import java.lang.reflect.Modifier;
import java.util.Arrays;
import java.util.TreeSet;

/** The public face and promise 1: every member of the document, no other, and how a new object is. */
public final class FaceTest {
    private static final String[] FACE = {
        "int row(int,int,int)", "int set(int,int,long)", "int copy(int,int,int,int,int)", "long element(int,int)",
        "int holds(int)", "int rule(int,int,int)", "int says(int,int)", "int act(int,int,int,int,int,int)",
        "int mark(int,boolean)", "int count(int,int)", "int likes(int,int,int)", "int lock(int,int,boolean)",
        "int hide(int)", "int feed(int)", "int wipe()", "int town()", "int actOf(int,int)", "int worthOf(int,int)",
        "int stands(int)", "int can(int)", "int value(int)", "int gain(int)", "int does(int)", "int next(int)",
        "int run(int,int,int,int)", "int head(int,int)", "int days(int,int,int)", "int gained(int)",
        "int judge(int,int)", "int told(int,int,int)", "int best(int,int)", "int against(int,int)",
        "int together(int)", "int harm(int)", "int work(int,boolean)", "int reach(int)", "int found()",
        "int say(int,int)", "int locking(int,int)", "int which(int)", "int up(int)", "int pact(int,int,int)",
        "int leap()", "int seed(int)", "int image()", "int back()", "int status(int)"};

    public static void main(String[] args) {
        Class<?> face = AwakeByHalves.class;
        Check.due("public and final", face.getModifiers() & (Modifier.PUBLIC | Modifier.FINAL),
            Modifier.PUBLIC | Modifier.FINAL);
        methods(face);
        fieldsAndConstructors(face);
        newObject(new AwakeByHalves());
        Check.end("FaceTest");
    }

    private static void methods(Class<?> face) {
        TreeSet<String> want = new TreeSet<>(Arrays.asList(FACE));
        TreeSet<String> got = new TreeSet<>();
        TreeSet<String> names = new TreeSet<>();
        for (Method m : face.getDeclaredMethods()) {
            if (Modifier.isPrivate(m.getModifiers()) || m.isSynthetic()) {
                continue;
            }
            Check.holds(m + " is public and no static one",
                Modifier.isPublic(m.getModifiers()) && !Modifier.isStatic(m.getModifiers()));
            String types = Arrays.toString(m.getParameterTypes()).replaceAll("[\\[\\] ]", "");
            got.add(m.getReturnType() + " " + m.getName() + "(" + types + ")");
            names.add(m.getName());
        }
        Check.holds("the methods are the document's: " + got, got.equals(want));
        for (Method m : face.getDeclaredMethods()) {
            Check.holds("no private method is called " + m.getName(),
                !Modifier.isPrivate(m.getModifiers()) || !names.contains(m.getName()));
        }
    }

    private static void fieldsAndConstructors(Class<?> face) {
        for (Field f : face.getDeclaredFields()) {
            Check.holds("field " + f.getName() + " is private or the constant",
                Modifier.isPrivate(f.getModifiers()) || f.getName().equals("NONE"));
            Check.holds("field " + f.getName() + " is final if it is static",
                !Modifier.isStatic(f.getModifiers()) || Modifier.isFinal(f.getModifiers()));
        }
        Check.due("NONE", AwakeByHalves.NONE, -1);
        Constructor<?>[] all = face.getDeclaredConstructors();
        Check.due("constructors", all.length, 1);
        Check.due("its parameters", all[0].getParameterCount(), 0);
        Check.holds("it is public", Modifier.isPublic(all[0].getModifiers()));
    }

    private static void newObject(AwakeByHalves x) {
        for (int s = 0; s < 8; s++) {
            Check.due("holds(" + s + ")", x.holds(s), -1);
        }
        for (int what = 0; what <= 6; what++) {
            Check.due("stands(" + what + ")", x.stands(what), 0);
        }
        for (int half = 0; half < 2; half++) {
            Check.due("can", x.can(half), 0);
            Check.due("value", x.value(half), 0);
            for (int what = 0; what < 12; what++) {
                Check.due("worthOf(" + half + ", " + what + ")", x.worthOf(half, what), 0);
            }
        }
        for (int what = 0; what <= 7; what++) {
            Check.due("status(" + what + ")", x.status(what), what == 6 ? 1 : 0);
        }
        for (int what = 12; what <= 16; what++) {
            Check.due("status(" + what + ")", x.status(what), 0);
        }
        Check.due("gained(2)", x.gained(2), 0);
        Check.due("actOf(0, 0)", x.actOf(0, 0), -2);
        Check.due("wipe()", x.wipe(), 0);
    }
}
