/** What the tests of the project have in common: comparing answers, feeding a tape, ending. */
final class Check {
    private static int wrong = 0;
    private static int made = 0;
    private static String about = "";

    private Check() { }

    static void due(String call, long got, long want) {
        made++;
        if (got != want) {
            wrong++;
            System.out.println(about + call + " answered " + got + ", due is " + want);
        }
    }

    /** What all answers from here on are told to be about, if they are wrong. */
    static void about(String what) {
        about = what.isEmpty() ? "" : "[" + what + "] ";
    }

    static int made() {
        return made;
    }

    static void holds(String what, boolean is) {
        due(what, is ? 1 : 0, 1);
    }

    static void feed(AwakeByHalves x, String text) {
        for (int i = 0; i < text.length(); i++) {
            x.feed(text.charAt(i));
        }
    }

    /** What town() answers for a text. */
    static int town(AwakeByHalves x, String text) {
        x.wipe();
        feed(x, text);
        return x.town();
    }

    static void end(String name) {
        System.out.println(name + ": " + made + " answers, " + wrong + " not as due");
        if (wrong != 0) {
            System.exit(1);
        }
    }
}
