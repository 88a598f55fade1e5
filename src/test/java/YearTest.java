/** Promises 44 to 48: days left over by draws, the seed, what is kept, what the status tells. */
public final class YearTest {
    public static void main(String[] args) {
        leap();
        draws();
        seed();
        image();
        kept();
        status();
        refused();
        Check.end("YearTest");
    }

    private static void leap() {
        AwakeByHalves x = new AwakeByHalves();
        Check.due("leap()", x.leap(), 6);
        Check.due("it stands", x.stands(0), 64);
        Check.due("it is no day", x.status(2), 0);
        Check.due("half 0 is awake still", x.stands(6), 0);
        Check.due("the seed", x.status(6), 1103527590);
        x.seed(1);
        Check.due("leap()", x.leap(), 6);
        Check.due("it doesn't stand", x.stands(0), 0);
    }

    /** Reckoned in longs here, cut to 32 bits. */
    private static void draws() {
        AwakeByHalves x = new AwakeByHalves();
        for (int first : new int[] {1, 0, -1, 77, Integer.MIN_VALUE, Integer.MAX_VALUE, 123456789}) {
            x.seed(first);
            long seed = first & 0xFFFFFFFFL;
            for (int i = 0; i < 12; i++) {
                seed = (seed * 1103515245L + 12345L) & 0xFFFFFFFFL;
                int before = x.stands(0);
                int mark = (int) ((seed >> 16) % 8);
                Check.due("leap()", x.leap(), mark);
                Check.due("that mark turned", x.stands(0) ^ before, 1 << mark);
                Check.due("the seed", x.status(6), (int) seed);
            }
        }
    }

    private static void seed() {
        AwakeByHalves x = new AwakeByHalves();
        Check.due("seed(5)", x.seed(5), 1);
        Check.due("seed(-7)", x.seed(-7), 5);
        Check.due("seed(0)", x.seed(0), -7);
        Check.due("status(6)", x.status(6), 0);
    }

    private static void image() {
        AwakeByHalves x = new AwakeByHalves();
        Check.due("nothing was kept", x.back(), -5);
        Check.due("STUCK", x.status(15), 1);
        Check.town(x, "act 1 0 1 2 need 3 bar 4;mark 3;count 2 7;likes 0 0 9;costs 1 2 3;hides 5;locks 1 0");
        x.seed(99);
        x.does(0);
        Check.due("image()", x.image(), 1);
        x.act(0, 0, 0, 1, 0, 0);
        x.mark(3, false);
        x.count(2, 1);
        x.likes(0, 0, 1);
        x.likes(1, 10, 0);
        x.hide(0);
        x.lock(1, 0, false);
        x.lock(0, 0, true);
        x.leap();
        x.does(-1);
        x.does(1);
        Check.due("back()", x.back(), 1);
        Check.due("acts", x.status(0), 1);
        int[] act = {1, 0, 1, 2, 8, 16, 2};
        for (int what = 0; what <= 6; what++) {
            Check.due("actOf(0, " + what + ")", x.actOf(0, what), act[what]);
        }
        Check.due("marks", x.stands(0), 9);
        Check.due("count 2", x.stands(4), 7);
        Check.due("worth", x.worthOf(0, 0), 9);
        Check.due("worth", x.worthOf(1, 10), -3);
        Check.due("hidden", x.stands(1), 32);
        Check.due("seed", x.status(6), 99);
        Check.due("days", x.status(2), 1);
        Check.due("half", x.stands(6), 1);
        Check.due("gained", x.gained(0), 9);
        Check.due("gained", x.gained(1), 0);
        Check.due("found", x.found(), 1);
    }

    private static void kept() {
        AwakeByHalves x = new AwakeByHalves();
        x.mark(1, true);
        x.feed(97);
        x.rule(0, 1, 1);
        x.image();
        x.feed(98);
        x.rule(1, 2, 2);
        x.row(0, 2, 2);
        x.mark(9, true);
        x.mark(1, false);
        Check.due("back()", x.back(), 1);
        Check.due("marks", x.stands(0), 2);
        Check.due("the tape is as it is", x.status(5), 2);
        Check.due("shelf 0 is as it is", x.holds(0), 2);
        Check.due("shelf 1 is as it is", x.holds(1), 12);
        Check.due("refusals are as they are", x.status(12), 1);
        x.mark(2, true);
        Check.due("back() again", x.back(), 1);
        Check.due("marks", x.stands(0), 2);
        x.mark(3, true);
        x.image();
        x.mark(3, false);
        x.back();
        Check.due("the newest is kept", x.stands(0), 10);
    }

    private static void status() {
        AwakeByHalves x = new AwakeByHalves();
        Check.town(x, "act 0 0 0 1;act 0 0 1 1;act 0 0 1 1;mark 1;mark 7;count 0 3;count 3 20;locks 0 1;locks 1 1;locks 1 2");
        x.row(0, 0, 0);
        x.rule(7, 1, 0);
        x.feed(1);
        x.does(0);
        x.does(-1);
        x.seed(-3);
        int[] want = {3, 2, 2, 24, 2, 1, -3, 2};
        for (int what = 0; what < 8; what++) {
            Check.due("status(" + what + ")", x.status(what), want[what]);
        }
        for (int what : new int[] {-1, 8, 9, 10, 11, 17, Integer.MIN_VALUE, Integer.MAX_VALUE}) {
            Check.due("status(" + what + ")", x.status(what), -1);
        }
        Check.due("nothing was refused", x.status(12), 0);
    }

    private static void refused() {
        AwakeByHalves x = new AwakeByHalves();
        x.rule(0, 1, 0);
        x.row(1, 0, 0);
        x.act(1, 0, 0, 1, 1, 0);
        for (int i = 0; i < 2; i++) {
            x.mark(8, true);
            x.value(5);
        }
        x.next(1);
        x.run(0, 1, 1, 0);
        x.next(2);
        x.against(2, 1);
        x.judge(3, 0);
        x.does(0);
        x.gain(0);
        x.back();
        x.found();
        for (int i = 0; i < 10; i++) {
            x.act(0, 0, 0, 1, 0, 0);
        }
        int[] want = {4, 2, 3, 4, 1};
        for (int i = 0; i < 5; i++) {
            Check.due("refusals " + (-2 - i), x.status(12 + i), want[i]);
        }
    }
}
