/** Promises 15 to 17: the tape, towns read from it, and where a text is wrong. */
public final class TapeTest {
    public static void main(String[] args) {
        feedAndWipe();
        statements();
        actsWithNeeds();
        spacing();
        allOrNothing();
        faults();
        endsTooEarly();
        strangeWords();
        numbers();
        room();
        Check.end("TapeTest");
    }

    private static void feedAndWipe() {
        AwakeByHalves x = new AwakeByHalves();
        Check.due("feed(0)", x.feed(0), 1);
        Check.due("feed(255)", x.feed(255), 2);
        Check.due("feed(256)", x.feed(256), -2);
        Check.due("feed(-1)", x.feed(-1), -2);
        Check.due("size", x.status(5), 2);
        Check.due("wipe()", x.wipe(), 2);
        Check.due("wipe()", x.wipe(), 0);
        for (int i = 1; i <= 250; i++) {
            Check.due("feed", x.feed(32), i);
        }
        Check.due("a 251st", x.feed(32), -6);
        Check.due("BAD ahead of FULL", x.feed(256), -2);
        Check.due("size", x.status(5), 250);
        Check.due("250 blanks end too early", x.town(), -270);
        Check.due("the tape is empty then", x.status(5), 0);
        Check.due("there is room again", x.feed(32), 1);
        Check.due("BAD so far", x.status(12), 4);
        Check.due("FULL so far", x.status(16), 1);
    }

    private static void statements() {
        AwakeByHalves x = new AwakeByHalves();
        Check.due("town", Check.town(x, "act 4 1 2 3;mark 7;count 3 23;likes 0 7 99;hates 1 0 98;counts 0 3 9;"
            + "costs 1 2 8;hides 0;hides 4;locks 1 0"), 10);
        Check.due("kind", x.actOf(0, 0), 4);
        Check.due("mark", x.actOf(0, 1), 1);
        Check.due("count", x.actOf(0, 2), 2);
        Check.due("number", x.actOf(0, 3), 3);
        Check.due("needs and bars", x.actOf(0, 4) + x.actOf(0, 5), 0);
        Check.due("locked for", x.actOf(0, 6), 2);
        Check.due("marks", x.stands(0), 128);
        Check.due("hidden", x.stands(1), 17);
        Check.due("counts", x.stands(5), 23);
        Check.due("likes", x.worthOf(0, 7), 99);
        Check.due("hates", x.worthOf(1, 0), -98);
        Check.due("counts", x.worthOf(0, 11), 9);
        Check.due("costs", x.worthOf(1, 10), -8);
        Check.due("the tape is empty", x.status(5), 0);
        Check.due("nothing refused", x.status(12), 0);
        Check.due("more comes to it", Check.town(x, "act 0 0 0 1; locks 0 0; hides 1; count 3 2; mark 0; likes 0 7 0"), 6);
        Check.due("acts", x.status(0), 2);
        Check.due("locked for", x.actOf(0, 6), 3);
        Check.due("hidden", x.stands(1), 19);
        Check.due("counts", x.stands(5), 2);
        Check.due("marks", x.stands(0), 129);
        Check.due("likes", x.worthOf(0, 7), 0);
        Check.due("hates still", x.worthOf(1, 0), -98);
        Check.due("a mark that stands already", Check.town(x, "mark 0"), 1);
        Check.due("marks", x.stands(0), 129);
    }

    private static void actsWithNeeds() {
        AwakeByHalves x = new AwakeByHalves();
        Check.due("town", Check.town(x, "act 0 0 0 9 need 0 need 7 need 0 bar 1 bar 2; act 1 7 3 1 bar 3; act 2 0 0 1 need 4"), 3);
        Check.due("needs", x.actOf(0, 4), 129);
        Check.due("bars", x.actOf(0, 5), 6);
        Check.due("number", x.actOf(0, 3), 9);
        Check.due("needs", x.actOf(1, 4), 0);
        Check.due("bars", x.actOf(1, 5), 8);
        Check.due("needs", x.actOf(2, 4), 16);
        Check.due("bars", x.actOf(2, 5), 0);
        Check.due("no need behind bar", Check.town(x, "act 0 0 0 9 bar 1 need 2"), -38);
        Check.due("no need behind another", Check.town(x, "mark 1 need 2"), -27);
        Check.due("need alone", Check.town(x, "need 2"), -20);
        Check.due("need of nothing", Check.town(x, "act 0 0 0 9 need"), -36);
        Check.due("need 8", Check.town(x, "act 0 0 0 9 need 8"), -37);
        Check.due("bar ;", Check.town(x, "act 0 0 0 9 bar;mark 1"), -35);
        Check.due("need bar", Check.town(x, "act 0 0 0 9 need bar 1"), -37);
    }

    private static void spacing() {
        AwakeByHalves x = new AwakeByHalves();
        Check.due("no blanks but between numbers", Check.town(x, "act1 2 3 4need5bar6;mark3;count1 2"), 3);
        Check.due("needs", x.actOf(0, 4), 32);
        Check.due("bars", x.actOf(0, 5), 64);
        Check.due("many blanks", Check.town(x, "   mark   5  ;  hides  5   "), 2);
        Check.due("numbers run together", Check.town(x, "act 12 3 4"), -24);
        Check.due("a word runs on", Check.town(x, "marks 1"), -20);
        Check.due("a word is cut", Check.town(x, "mar k 1"), -20);
        Check.due("another blank is none", Check.town(x, "mark\t1"), -24);
        Check.due("a word as another", Check.town(x, "count 1 2;counts 0 1 2;count s"), -20 - 29);
    }

    private static void allOrNothing() {
        AwakeByHalves x = new AwakeByHalves();
        Check.town(x, "act 0 0 0 1;likes 0 0 3");
        x.count(1, 5);
        x.does(0);
        x.hide(0);
        Check.due("wrong at its end", Check.town(x, "act 0 0 0 1;mark 1;count 1 2;likes 0 0 9;hides 3;locks 0 0;"), -20 - 59);
        Check.due("acts", x.status(0), 1);
        Check.due("marks", x.stands(0), 0);
        Check.due("count", x.stands(3), 5);
        Check.due("worth", x.worthOf(0, 0), 3);
        Check.due("hidden", x.stands(1), 0);
        Check.due("locked", x.status(4), 0);
        Check.due("FOUND is known still", x.found(), 1);
        Check.due("BAD so far", x.status(12), 1);
        Check.due("the tape is empty", x.wipe(), 0);
        Check.due("days stay", Check.town(x, "mark 3") + x.status(2), 2);
        Check.due("FOUND is not known behind a town", x.found(), -5);
    }

    private static void faults() {
        AwakeByHalves x = new AwakeByHalves();
        String[] texts = {"", ";", "mark", "mark ", "mark 1;", "mark 1;;", "mark 1 2", "mark 1 mark 2", "mark ;", "1",
            "mark 8", "mark 1;!", "mark !", "Mark 1", "act 6", "act 0 8", "act 0 0 4", "act 0 0 0 0", "act 0 0 0 10",
            "count 4", "count 0 24", "likes 2", "likes 0 8", "likes 0 0 100", "hates 0 0 100", "counts 0 4",
            "counts 0 0 10", "costs 2", "hides 8", "hides", "locks 0 0", "act 0 0 0 1;locks 0 1", "locks 2", "bar 1",
            "likes 0 0", "likes 0 0 x", "act 0 0 0 1 hides 1", "mark 1; ", "  mark 9", "mark -1"};
        int[] at = {0, 0, 4, 5, 7, 7, 7, 7, 5, 0,
            5, 7, 5, 0, 4, 6, 8, 10, 10,
            6, 8, 6, 8, 10, 10, 9,
            11, 6, 6, 5, 8, 20, 6, 0,
            9, 10, 12, 8, 7, 5};
        for (int i = 0; i < texts.length; i++) {
            Check.due("\"" + texts[i] + "\"", Check.town(x, texts[i]), -20 - at[i]);
        }
        Check.due("each is refused", x.status(12), texts.length);
        Check.due("nothing came of them", x.status(0) + x.stands(0) + x.status(3) + x.stands(1), 0);
        Check.due("act and lock in one", Check.town(x, "act 0 0 0 1;locks 0 0"), 2);
        x.feed(200);
        Check.due("a byte beyond", x.town(), -20);
    }

    /** Every statement cut off behind each of its tokens, or with a ; there: the fault is where the rest should be. */
    private static void endsTooEarly() {
        String[] whole = {"act 0 0 0 1", "act 0 0 0 1 need 2", "act 0 0 0 1 bar 2", "mark 1", "count 1 2", "likes 0 1 2",
            "hates 0 1 2", "counts 0 1 2", "costs 0 1 2", "hides 1", "locks 0 0"};
        for (String text : whole) {
            AwakeByHalves x = new AwakeByHalves();
            x.act(0, 0, 0, 1, 0, 0);
            for (int i = text.indexOf(' '); i >= 0; i = text.indexOf(' ', i + 1)) {
                String cut = text.substring(0, i);
                boolean isWhole = cut.equals("act 0 0 0 1");
                Check.due("\"" + cut + "\"", Check.town(x, cut), isWhole ? 1 : -20 - i);
                Check.due("\"" + cut + ";mark 1\"", Check.town(x, cut + ";mark 1"), isWhole ? 2 : -20 - i);
                Check.due("\"" + cut + " x\"", Check.town(x, cut + " x"), -21 - i);
            }
            Check.due("\"" + text + "\"", Check.town(x, text), 1);
            Check.due("\"" + text + " 3\"", Check.town(x, text + " 3"), -21 - text.length());
        }
    }

    private static void strangeWords() {
        AwakeByHalves x = new AwakeByHalves();
        for (String text : new String[] {"park 1", "markz 1", "zmark 1", "mare 1", "ect 0 0 0 1", "likez 0 0 0", "xikes 0 0 0", "counto 0 0 0"}) {
            Check.due("\"" + text + "\"", Check.town(x, text), -20);
        }
        Check.due("a sign behind the digits", Check.town(x, "count 1 :"), -28);
        Check.due("a sign ahead of the digits", Check.town(x, "count 1 /"), -28);
        Check.due("a sign behind the letters", Check.town(x, "mark{ 1"), -24);
        Check.due("a sign ahead of the letters", Check.town(x, "`mark 1"), -20);
        Check.due("0 of each", Check.town(x, "count 0 0;likes 0 0 0;hates 0 0 0;counts 0 0 0;costs 0 0 0"), 5);
    }

    private static void numbers() {
        AwakeByHalves x = new AwakeByHalves();
        Check.due("two digits", Check.town(x, "act 05 07 03 09 need 07"), 1);
        Check.due("number", x.actOf(0, 3), 9);
        Check.due("00", Check.town(x, "count 00 00"), 1);
        Check.due("three digits", Check.town(x, "mark 007"), -25);
        Check.due("three digits", Check.town(x, "count 1 000"), -28);
        Check.due("many digits", Check.town(x, "mark 99999999999999999999"), -25);
        Check.due("4294967296", Check.town(x, "mark 4294967296"), -25);
        Check.due("the edges", Check.town(x, "count 3 23;likes 1 7 99;costs 1 3 9;act 5 7 3 1;hides 7;locks 1 1"), 6);
    }

    /** The word "act" can't stand there, whatever is behind it, when there are ten already. */
    private static void room() {
        AwakeByHalves x = new AwakeByHalves();
        for (int i = 0; i < 8; i++) {
            x.act(0, 0, 0, 1, 0, 0);
        }
        Check.due("two more and one", Check.town(x, "act 0 0 0 1;act 0 0 0 1; act 0 0 0 1"), -20 - 25);
        Check.due("none came", x.status(0), 8);
        Check.due("two more", Check.town(x, "act 0 0 0 1;act 0 0 0 1;locks 0 9"), 3);
        Check.due("acts", x.status(0), 10);
        Check.due("no room, though it is wrong behind, too", Check.town(x, "mark 1;act 9"), -27);
        Check.due("locks 0 10", Check.town(x, "locks 0 10"), -28);
        Check.due("FULL is not counted", x.status(16), 0);
        Check.due("BAD so far", x.status(12), 3);
    }
}
