import java.io.IOException;

/** The document's Terms, 1: what there is in a town, and towns read from the tape, sentence by sentence. */
public final class TermsTownTest {
    public static void main(String[] args) throws IOException {
        marks();
        counts();
        halves();
        hidden();
        kindsOfActs();
        partsOfActs();
        worths();
        tape();
        tokens();
        statements();
        actStatement();
        markStatement();
        countStatement();
        likesStatement();
        countsStatement();
        hidesStatement();
        locksStatement();
        allOrNothing();
        fault();
        faultOfNumbers();
        faultOfRoom();
        faultOfBytes();
        faultOfTheEnd();
        Doc.end("TermsTownTest", "## Terms", "==== 2. DAYS");
    }

    private static void marks() {
        Doc.says("THE TOWN MARKS 0 to 7 stand or not (at first not).");
        AwakeByHalves x = new AwakeByHalves();
        Check.due("MARKS at first", x.stands(0), 0);
        for (int m = 0; m < 8; m++) {
            Check.due("MARK " + m + " doesn't stand at first", x.mark(m, false), 0);
        }
        for (int m = 0; m < 8; m++) {
            Check.due("MARK " + m + " stands", x.mark(m, true), 1);
            Check.due("MARKS 0 to " + m, x.stands(0), (2 << m) - 1);
        }
        Check.due("MARK -1", x.mark(-1, true), -2);
        Check.due("MARK 8", x.mark(8, true), -2);
        Check.due("all eight", x.status(1), 8);
    }

    private static void counts() {
        Doc.says("COUNTS 0 to 3: 0 to 23 each (0 at first).");
        AwakeByHalves x = new AwakeByHalves();
        for (int c = 0; c < 4; c++) {
            Check.due("COUNT " + c + " at first", x.stands(2 + c), 0);
            Check.due("COUNT " + c + " becomes 23", x.count(c, 23), 0);
            Check.due("24", x.count(c, 24), -2);
            Check.due("-1", x.count(c, -1), -2);
            Check.due("COUNT " + c, x.stands(2 + c), 23);
            Check.due("COUNT " + c + " becomes 0", x.count(c, 0), 23);
            Check.due("COUNT " + c, x.stands(2 + c), 0);
        }
        Check.due("COUNT -1", x.count(-1, 0), -2);
        Check.due("COUNT 4", x.count(4, 0), -2);
    }

    private static void halves() {
        Doc.says("DAY d (0 at first): HALF d modulo 2 is awake.");
        AwakeByHalves x = new AwakeByHalves();
        Check.due("DAYS gone by at first", x.status(2), 0);
        Check.due("HALF 0 is awake at first", x.stands(6), 0);
        for (int d = 1; d <= 5; d++) {
            Check.due("DAY", x.does(-1), d);
            Check.due("HALF on DAY " + d, x.stands(6), d % 2);
        }
        x.rule(0, 6, 0);
        Check.due("an odd number of DAYS more", x.days(0, 0, 19), 24);
        Check.due("HALF on DAY 24", x.stands(6), 0);
    }

    private static void hidden() {
        Doc.says("HIDDEN: a set of MARKS that the other HALF can't see (none at first).");
        AwakeByHalves x = new AwakeByHalves();
        Check.due("none at first", x.stands(1), 0);
        Check.due("the least set beyond", x.hide(256), -2);
        Check.due("-1", x.hide(-1), -2);
        x.act(3, 7, 0, 1, 0, 0);
        x.does(0);
        Check.due("the other HALF sees MARK 7", x.found(), 1);
        x.hide(127);
        Check.due("and though all but it are HIDDEN", x.found(), 1);
        x.hide(128);
        Check.due("it doesn't see it when it is HIDDEN", x.found(), 1 + 1024);
    }

    private static void kindsOfActs() {
        Doc.says("ACTS have numbers, 0 on, 10 at most, each of a KIND: 0 ACT; 1 MAKE, 2 BREAK, 3 TURN, each under ACT;"
            + " 4 FILL, under MAKE; 5 DRAIN, under BREAK;");
        AwakeByHalves x = new AwakeByHalves();
        Check.due("KIND -1", x.act(-1, 0, 0, 1, 0, 0), -2);
        Check.due("KIND 6", x.act(6, 0, 0, 1, 0, 0), -2);
        for (int a = 0; a < 10; a++) {
            Check.due("ACT of KIND " + a % 6, x.act(a % 6, 0, 0, 1, 0, 0), a);
            Check.due("its KIND", x.actOf(a, 0), a % 6);
        }
        Check.due("an 11th", x.act(0, 0, 0, 1, 0, 0), -6);
        Check.due("there are ten", x.status(0), 10);
        Check.due("no ACT 10", x.actOf(10, 0), -2);
        theTenth();
    }

    /** Ten ACTS, of which the last is the best by far to both: it is looked at, and nothing behind it. */
    private static void theTenth() {
        AwakeByHalves x = new AwakeByHalves();
        for (int a = 0; a < 10; a++) {
            x.act(a < 8 ? 1 : 0, a % 8, a / 9, a < 9 ? 1 : 9, 0, 0);
        }
        for (int what = 9; what < 12; what++) {
            x.likes(0, what, 9);
            x.likes(1, what, 9);
        }
        x.row(7, 0, 2);
        x.set(7, 0, 10);
        x.set(7, 1, 9);
        for (int kind = 1; kind <= 5; kind++) {
            x.rule(kind, kind, 50);
            Check.due("a RULE of KIND " + kind, x.next(kind), 9);
        }
        Check.due("ACTS that CAN be", x.can(0), 1023);
        for (int k = 1; k <= 4; k++) {
            // COUNT 1 is 9, 18, then 23, and 9 of it are 81
            int[] all = {81, 81 + 162, 81 + 162 + 207, 81 + 162 + 207 + 207};
            Check.due("the first of BEST", x.best(k, 2), 9);
            Check.due("TOGETHER", x.together(k), all[k - 1]);
            Check.due("AGAINST OWN", x.against(1, k), k < 3 ? 81 : 81 + 207);
            Check.due("harm", x.harm(k), 0);
            Check.due("which LOCK", x.which(k), -1);
            Check.due("LOCKING the tenth", x.locking(9, k), k < 3 ? 0 : 162 - 207);
            Check.due("reach", x.reach(k), 255);
        }
        Check.due("STAYING UP", x.up(1), 81);
        Check.due("WORK of five MARKS", x.work(31, false), -1);
        Check.due("told 10, which is none, and 9", x.told(7, 2, 0) + x.told(7, 2, 1), 81);
        x.lock(1, 9, true);
        Check.due("LOCKED", x.status(4), 1);
        x.does(9);
        Check.due("FOUND", x.found(), 512);
    }

    private static void isPart(int[] act, int number) {
        AwakeByHalves x = new AwakeByHalves();
        Check.due("act" + java.util.Arrays.toString(act), x.act(act[0], act[1], act[2], act[3], act[4], act[5]), number);
        Check.due("there are so many", x.status(0), number == 0 ? 1 : 0);
        for (int what = 0; number == 0 && what < 6; what++) {
            Check.due("actOf(0, " + what + ")", x.actOf(0, what), act[what]);
        }
    }

    private static void partsOfActs() {
        Doc.says("a MARK m, a COUNT c, a NUMBER n (1 to 9), NEEDS (a set of MARKS that have to stand),"
            + " BARS (a set that may not), LOCKED for each HALF or not (at first not).");
        int[] least = {0, 0, 0, 1, 0, 0};
        int[] most = {5, 7, 3, 9, 255, 255};
        isPart(least, 0);
        isPart(most, 0);
        for (int i = 0; i < 6; i++) {
            int[] tooSmall = least.clone();
            tooSmall[i]--;
            isPart(tooSmall, -2);
            int[] tooLarge = most.clone();
            tooLarge[i]++;
            isPart(tooLarge, -2);
        }
        AwakeByHalves x = new AwakeByHalves();
        x.act(0, 0, 0, 1, 0, 0);
        Check.due("LOCKED for none at first", x.actOf(0, 6), 0);
        Check.due("nor for HALF 0", x.lock(0, 0, false), 0);
        Check.due("nor for HALF 1", x.lock(1, 0, false), 0);
    }

    private static void worths() {
        Doc.says("WORTH of each HALF: for each MARK that stands (-99 to 99; 0 at first),"
            + " for each 1 of each COUNT (-9 to 9; 0 at first).");
        AwakeByHalves x = new AwakeByHalves();
        for (int i = 0; i < 24; i++) {
            int most = i % 12 < 8 ? 99 : 9;
            Check.due("0 at first", x.worthOf(i / 12, i % 12), 0);
            Check.due("too much", x.likes(i / 12, i % 12, most + 1), -2);
            Check.due("too little", x.likes(i / 12, i % 12, -most - 1), -2);
            Check.due("0 still", x.worthOf(i / 12, i % 12), 0);
            Check.due("the least", x.likes(i / 12, i % 12, -most), 1);
            Check.due("it is so", x.worthOf(i / 12, i % 12), -most);
            Check.due("the most", x.likes(i / 12, i % 12, most), 1);
            Check.due("it is so", x.worthOf(i / 12, i % 12), most);
        }
    }

    private static void tape() {
        Doc.says("A TOWN is read from THE TAPE (bytes, 250 at most).");
        AwakeByHalves x = new AwakeByHalves();
        Check.feed(x, " ".repeat(245) + "mark7");
        Check.due("250 bytes are there", x.status(5), 250);
        Check.due("a 251st byte", x.feed('1'), -6);
        Check.due("they are read to the last", x.town(), 1);
        Check.due("MARK 7 stands", x.stands(0), 128);
        Check.due("blanks up to the 250th", Check.town(x, "mark6" + " ".repeat(245)), 1);
        Check.due("the least byte", x.feed(0), 1);
        Check.due("the greatest byte", x.feed(255), 2);
        Check.due("less than a byte", x.feed(-1), -2);
        Check.due("more than a byte", x.feed(256), -2);
    }

    private static void tokens() {
        Doc.says("TOKENS, each as long as can be: WORDS (a .. z), NUMBERS (digits), the SIGN ; -"
            + " blanks (32) may stand anywhere between.");
        AwakeByHalves x = new AwakeByHalves();
        Check.due("no blank", Check.town(x, "act1 2 3 9need5bar6;mark3"), 2);
        Check.due("blanks", Check.town(x, "   mark   4   ;   hides   5   "), 2);
        Check.due("no blank in a WORD", Check.town(x, "ma rk 1"), -20);
        Check.due("no blank in a NUMBER", Check.town(x, "count 0 2 3"), -30);
        Check.due("a WORD as long as can be", Check.town(x, "markmark 1"), -20);
        Check.due("a NUMBER as long as can be", Check.town(x, "count 012"), -26);
        Check.due("a z is a WORD's letter", Check.town(x, "markz1"), -20);
        Check.due("an a is a WORD's letter", Check.town(x, "marka1"), -20);
        Check.due("a 0 and a 9 are a NUMBER's digits", Check.town(x, "likes 0 0 90;likes 0 0 09"), 2);
        for (char c : new char[] {31, 33, 96, 123, 'A', 'Z', 47, 58, 60, 0, 9, 10, 160, 255}) {
            Check.due("byte " + (int) c + " is no TOKEN and no blank", Check.town(x, "mark" + c + "1"), -24);
        }
    }

    private static void statements() {
        Doc.says("STATEMENTS, one or more, with ; between:");
        AwakeByHalves x = new AwakeByHalves();
        Check.due("none, on an empty TAPE", x.town(), -20);
        Check.due("none, on a blank TAPE", Check.town(x, "   "), -23);
        Check.due("one", Check.town(x, "mark 1"), 1);
        Check.due("as many as there is room for", Check.town(x, "mark1;".repeat(40) + "mark1"), 41);
        Check.due("; alone", Check.town(x, ";"), -20);
        Check.due("; ahead", Check.town(x, ";mark 1"), -20);
        Check.due("; behind", Check.town(x, "mark 1;"), -27);
        Check.due(";;", Check.town(x, "mark 1;;mark 2"), -27);
        Check.due("no ;", Check.town(x, "mark 1 mark 2"), -27);
        Check.due("a WORD that begins none", Check.town(x, "need 1"), -20);
        Check.due("a NUMBER begins none", Check.town(x, "1"), -20);
        for (String word : new String[] {"act", "mark", "count", "likes", "hates", "counts", "costs", "hides", "locks"}) {
            Check.due("another first letter", Check.town(x, "x" + word.substring(1) + " 0 0 0 1"), -20);
            Check.due("another last letter", Check.town(x, word.substring(0, word.length() - 1) + "x 0 0 0 1"), -20);
            Check.due("one letter more", Check.town(x, word + "x 0 0 0 1"), -20);
            Check.due("one letter ahead", Check.town(x, "x" + word + " 0 0 0 1"), -20);
        }
        Check.due("nothing came of these", x.status(0), 0);
    }

    private static void actStatement() {
        Doc.says("act K M C N, perhaps need M, perhaps again need M, and so on, then perhaps bar M, and so on;");
        AwakeByHalves x = new AwakeByHalves();
        String needs = " need 0 need 1 need 2 need 3 need 4 need 5 need 6 need 7";
        Check.due("all of them", Check.town(x, "act 5 7 3 9" + needs + needs.replace("need", "bar")), 1);
        int[] most = {5, 7, 3, 9, 255, 255, 0};
        for (int what = 0; what < 7; what++) {
            Check.due("actOf(0, " + what + ")", x.actOf(0, what), most[what]);
        }
        Check.due("none of them; one bar; one need twice", Check.town(x, "act 0 0 0 1;act 1 0 0 1 bar 7;act 2 0 0 1 need 0 need 0"), 3);
        int[] sets = {0, 0, 0, 128, 1, 0};
        for (int i = 0; i < 6; i++) {
            Check.due("needs and bars", x.actOf(1 + i / 2, 4 + i % 2), sets[i]);
        }
        String[] wrong = {"act 6", "act 0 8", "act 0 0 4", "act 0 0 0 0", "act 0 0 0 10", "act 0 0 0 1 need 8",
            "act 0 0 0 1 bar 8", "act 0 0 0 1 bar 0 need 1", "act 0 0 0 1 need need", "act 0 0 0 1 bar;", "act 0 0 0 1 2", "act;"};
        int[] at = {4, 6, 8, 10, 10, 17, 16, 18, 17, 15, 12, 3};
        for (int i = 0; i < wrong.length; i++) {
            Check.due(wrong[i], Check.town(x, wrong[i]), -20 - at[i]);
        }
        Check.due("no more ACTS came", x.status(0), 4);
        for (String word : new String[] {"xeed", "neex", "nee", "needs", "xar", "bax", "ba", "bars"}) {
            Check.due(word, Check.town(x, "act 0 0 0 1 " + word + " 1"), -32);
        }
    }

    private static void markStatement() {
        Doc.says("mark M (it stands);");
        AwakeByHalves x = new AwakeByHalves();
        Check.due("the least, the greatest", Check.town(x, "mark 0;mark 7"), 2);
        Check.due("they stand", x.stands(0), 129);
        Check.due("one that stood", Check.town(x, "mark 0"), 1);
        Check.due("it stands still", x.stands(0), 129);
        Check.due("mark 8", Check.town(x, "mark 8"), -25);
        Check.due("mark alone", Check.town(x, "mark;"), -24);
    }

    private static void countStatement() {
        Doc.says("count C N;");
        AwakeByHalves x = new AwakeByHalves();
        Check.due("the least, the greatest", Check.town(x, "count 0 5;count 0 0;count 3 23"), 3);
        Check.due("COUNT 0", x.stands(2), 0);
        Check.due("COUNT 3", x.stands(5), 23);
        Check.due("count 4", Check.town(x, "count 4 0"), -26);
        Check.due("24", Check.town(x, "count 3 24"), -28);
        Check.due("no N", Check.town(x, "count 3;"), -27);
    }

    private static void likesStatement() {
        Doc.says("likes H M N, hates H M N (WORTH of a MARK for a HALF: N, -N; N 0 to 99);");
        AwakeByHalves x = new AwakeByHalves();
        Check.due("edges", Check.town(x, "likes 0 0 99;likes 1 7 98;hates 0 7 99;hates 1 0 1"), 4);
        Check.due("likes", x.worthOf(0, 0), 99);
        Check.due("likes", x.worthOf(1, 7), 98);
        Check.due("hates", x.worthOf(0, 7), -99);
        Check.due("hates", x.worthOf(1, 0), -1);
        Check.due("0", Check.town(x, "likes 0 0 0;hates 0 7 0"), 2);
        Check.due("likes 0", x.worthOf(0, 0), 0);
        Check.due("hates 0", x.worthOf(0, 7), 0);
        for (String word : new String[] {"likes", "hates"}) {
            Check.due(word + " 2", Check.town(x, word + " 2 0 0"), -26);
            Check.due(word + " of MARK 8", Check.town(x, word + " 0 8 0"), -28);
            Check.due(word + " 100", Check.town(x, word + " 0 0 100"), -30);
        }
    }

    private static void countsStatement() {
        Doc.says("counts H C N, costs H C N (for 1 of a COUNT; N 0 to 9);");
        AwakeByHalves x = new AwakeByHalves();
        Check.due("edges", Check.town(x, "counts 0 0 9;counts 1 3 8;costs 0 3 9;costs 1 0 1"), 4);
        Check.due("counts", x.worthOf(0, 8), 9);
        Check.due("counts", x.worthOf(1, 11), 8);
        Check.due("costs", x.worthOf(0, 11), -9);
        Check.due("costs", x.worthOf(1, 8), -1);
        Check.due("0", Check.town(x, "counts 0 0 0;costs 0 3 0"), 2);
        Check.due("counts 0", x.worthOf(0, 8), 0);
        Check.due("costs 0", x.worthOf(0, 11), 0);
        Check.due("counts of HALF 2", Check.town(x, "counts 2 0 0"), -27);
        Check.due("counts of COUNT 4", Check.town(x, "counts 0 4 0"), -29);
        Check.due("counts 10", Check.town(x, "counts 0 0 10"), -31);
        Check.due("costs of HALF 2", Check.town(x, "costs 2 0 0"), -26);
        Check.due("costs of COUNT 4", Check.town(x, "costs 0 4 0"), -28);
        Check.due("costs 10", Check.town(x, "costs 0 0 10"), -30);
    }

    private static void hidesStatement() {
        Doc.says("hides M;");
        AwakeByHalves x = new AwakeByHalves();
        x.hide(16);
        Check.due("the least, the greatest", Check.town(x, "hides 0;hides 7;hides 7"), 3);
        Check.due("they come to what is HIDDEN", x.stands(1), 128 + 16 + 1);
        Check.due("hides 8", Check.town(x, "hides 8"), -26);
    }

    private static void locksStatement() {
        Doc.says("locks H A (an ACT there is then).");
        AwakeByHalves x = new AwakeByHalves();
        Check.due("no ACT at all", Check.town(x, "locks 0 0"), -28);
        Check.due("an ACT that comes later", Check.town(x, "locks 0 0;act 0 0 0 1"), -28);
        Check.due("an ACT of the same TAPE", Check.town(x, "act 0 0 0 1;locks 1 0"), 2);
        Check.due("it is LOCKED", x.actOf(0, 6), 2);
        Check.due("the other HALF, the first again", Check.town(x, "locks 0 0;locks 1 0"), 2);
        Check.due("for both", x.actOf(0, 6), 3);
        Check.due("one too many", Check.town(x, "locks 0 1"), -28);
        Check.due("HALF 2", Check.town(x, "locks 2 0"), -26);
        for (int a = 1; a < 10; a++) {
            x.act(0, 0, 0, 1, 0, 0);
        }
        Check.due("the last of ten", Check.town(x, "locks 1 9"), 1);
        Check.due("it is LOCKED", x.actOf(9, 6), 2);
        Check.due("ten", Check.town(x, "locks 1 10"), -28);
    }

    private static void allOrNothing() {
        Doc.says("All comes to what there is, or nothing.");
        AwakeByHalves x = new AwakeByHalves();
        Check.town(x, "act 3 0 0 1;mark 6;count 1 4;likes 0 6 7;counts 1 1 2;hides 6");
        x.does(0);
        String before = AnyArgumentsTest.all(x);
        Check.due("a FAULT behind one of each", Check.town(x,
            "act 0 0 0 1;mark 1;count 1 2;likes 0 6 1;hates 0 0 9;counts 1 1 1;costs 0 0 2;hides 3;locks 0 0;locks 1 2"), -20 - 104);
        Check.holds("nothing came", before.equals(AnyArgumentsTest.all(x)));
        Check.due("FOUND is as it was", x.found(), 1);
        Check.due("the same without it", Check.town(x,
            "act 0 0 0 1;mark 1;count 1 2;likes 0 6 1;hates 0 0 9;counts 1 1 1;costs 0 0 2;hides 3;locks 0 0;locks 1 1"), 10);
        Check.due("what there was stays: MARKS", x.stands(0), 64 + 2 + 1);
        Check.due("HIDDEN", x.stands(1), 64 + 8);
        Check.due("ACTS", x.status(0), 2);
        Check.due("the first of them", x.actOf(0, 0), 3);
        Check.due("DAYS", x.status(2), 1);
        Check.due("what comes is new: COUNT 1", x.stands(3), 2);
        Check.due("WORTH", x.worthOf(0, 6), 1);
    }

    private static void fault() {
        Doc.says("The FAULT: the place of the first byte of the first TOKEN that can't stand there");
        AwakeByHalves x = new AwakeByHalves();
        Check.due("at the very first byte", Check.town(x, "x"), -20);
        Check.due("behind blanks", Check.town(x, "   x"), -23);
        Check.due("a long TOKEN", Check.town(x, "mark    word"), -28);
        Check.due("the first of two", Check.town(x, "mark 9;mark 9"), -25);
        Check.due("the first, though the next is strange", Check.town(x, "mark 9 !"), -25);
        Check.due("a ; too soon", Check.town(x, "likes 0 ;"), -28);
        Check.due("a WORD for a NUMBER", Check.town(x, "likes 0 x 1"), -28);
        Check.due("at the 250th byte", Check.town(x, "mark 1" + " ".repeat(243) + "x"), -20 - 249);
    }

    private static void faultOfNumbers() {
        Doc.says("(also a NUMBER that may not be, or has more than 2 digits;");
        AwakeByHalves x = new AwakeByHalves();
        Check.due("two digits", Check.town(x, "mark 07"), 1);
        Check.due("two digits, one too many", Check.town(x, "mark 08"), -25);
        Check.due("three digits of what may be", Check.town(x, "mark 007"), -25);
        Check.due("three digits of 0", Check.town(x, "count 0 000"), -28);
        Check.due("100", Check.town(x, "likes 0 0 100"), -30);
        Check.due("what wraps to 1", Check.town(x, "mark 4294967297"), -25);
        Check.due("245 digits", Check.town(x, "mark " + "0".repeat(245)), -25);
        Check.due("no NUMBER below 0", Check.town(x, "count 0 -1"), -28);
    }

    private static void faultOfRoom() {
        Doc.says("what there is no room for: its word;");
        AwakeByHalves x = new AwakeByHalves();
        for (int a = 0; a < 9; a++) {
            x.act(0, 0, 0, 1, 0, 0);
        }
        Check.due("a 10th and an 11th", Check.town(x, "act 0 0 0 1; act 0 0 0 1"), -20 - 13);
        Check.due("neither came", x.status(0), 9);
        Check.due("a 10th", Check.town(x, "act 5 7 3 9 need 1 bar 2;locks 1 9"), 2);
        int[] tenth = {5, 7, 3, 9, 2, 4, 2};
        for (int what = 0; what < 7; what++) {
            Check.due("actOf(9, " + what + ")", x.actOf(9, what), tenth[what]);
        }
        Check.due("an 11th", Check.town(x, "act 0 0 0 1"), -20);
        Check.due("its word, though a NUMBER behind it may not be", Check.town(x, "mark 1;act 9"), -27);
        Check.due("its word, though the TAPE ends behind it", Check.town(x, "act"), -20);
        Check.due("there are ten", x.status(0), 10);
    }

    private static void faultOfBytes() {
        Doc.says("a byte that begins none);");
        AwakeByHalves x = new AwakeByHalves();
        for (char c : new char[] {0, '\n', '!', '-', ':', 'M', 127, 128, 255}) {
            Check.due("byte " + (int) c + " first", Check.town(x, c + "mark 1"), -20);
            Check.due("byte " + (int) c + " behind a STATEMENT", Check.town(x, "mark 1" + c), -26);
            Check.due("byte " + (int) c + " for a NUMBER", Check.town(x, "mark  " + c), -26);
        }
    }

    private static void faultOfTheEnd() {
        Doc.says("THE TAPE's size, if it ends too early.");
        AwakeByHalves x = new AwakeByHalves();
        Check.due("empty", Check.town(x, ""), -20);
        Check.due("mark", Check.town(x, "mark"), -24);
        Check.due("blanks behind it", Check.town(x, "mark  "), -26);
        Check.due("a ; behind all", Check.town(x, "mark 1;"), -27);
        Check.due("a ; and blanks", Check.town(x, "mark 1;  "), -29);
        Check.due("need", Check.town(x, "act 0 0 0 1 need"), -36);
        Check.due("all of it blank", Check.town(x, " ".repeat(250)), -270);
        Check.due("a whole TAPE", Check.town(x, " ".repeat(246) + "mark"), -270);
        Check.due("each is refused", x.status(12), 8);
        cutOff();
    }

    /** Every STATEMENT cut off behind each of its TOKENS: at the TAPE's end, and by a ; that can't stand there. */
    private static void cutOff() {
        String[] whole = {"act 0 0 0 1", "act 0 0 0 1 need 2", "act 0 0 0 1 bar 2", "mark 1", "count 1 2", "likes 0 1 2",
            "hates 0 1 2", "counts 0 1 2", "costs 0 1 2", "hides 1", "locks 0 0"};
        for (String text : whole) {
            AwakeByHalves x = new AwakeByHalves();
            x.act(0, 0, 0, 1, 0, 0);
            for (int i = text.indexOf(' '); i >= 0; i = text.indexOf(' ', i + 1)) {
                String cut = text.substring(0, i);
                if (!cut.equals("act 0 0 0 1")) {
                    Check.due("\"" + cut + "\"", Check.town(x, cut), -20 - i);
                    Check.due("\"" + cut + ";mark 1\"", Check.town(x, cut + ";mark 1"), -20 - i);
                }
            }
            Check.due("\"" + text + "\"", Check.town(x, text), 1);
        }
    }
}
