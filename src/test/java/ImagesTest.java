import java.util.NoSuchElementException;

/** Promises 37 to 41: tray, write, image, restore, count. */
public final class ImagesTest {
    private static final Checks c = new Checks();

    public static void main(String[] args) {
        trays();
        cuts();
        counts();
        allComesBack();
        notInImages();
        threeImages();
        runsGoOn();
        wrongCalls();
        c.end();
    }

    private static void trays() {
        PumpCrossing x = new PumpCrossing();
        for (int tray = 0; tray < 4; tray++) {
            x.tray(tray, tray, 28);
            c.due("the last place", x.write(tray, 27, 100 + tray), 100 + tray);
        }
        int[][] wrong = {{0, -1, 0}, {0, 4, 0}, {0, 0, -1}, {0, 0, 29}};
        for (int[] w : wrong) {
            c.dueThrow("tray, wrong", IllegalArgumentException.class, () -> x.tray(w[0], w[1], w[2]));
        }
        c.dueThrow("tray 4", NoSuchElementException.class, () -> x.tray(4, -1, -1));
        c.dueThrow("tray -1", NoSuchElementException.class, () -> x.tray(-1, 0, 0));
        c.due("as it was", x.write(0, 27, 5), 5);
        x.tray(0, 0, 0);
        c.dueThrow("no place", IndexOutOfBoundsException.class, () -> x.write(0, 0, 0));
        x.tray(1, 0, 3);
        c.dueThrow("place 3", IndexOutOfBoundsException.class, () -> x.write(1, 3, 0));
        c.dueThrow("place -1", IndexOutOfBoundsException.class, () -> x.write(1, -1, 0));
        x.write(1, 0, 50);
        c.due("others are 0", x.fill(1, 3, 0, -1), 50);
        x.tray(1, 0, 3);
        c.due("all are 0 again", x.fill(1, 3, 0, -1), 0);
        PumpCrossing y = new PumpCrossing();
        c.dueThrow("missing", IllegalStateException.class, () -> y.write(0, 99, 0));
        c.dueThrow("no such tray", NoSuchElementException.class, () -> y.write(4, 99, 0));
        c.dueThrow("no such tray", NoSuchElementException.class, () -> y.write(-1, 99, 0));
    }

    private static void cuts() {
        PumpCrossing x = new PumpCrossing();
        for (int tray = 0; tray < 4; tray++) {
            x.tray(tray, tray, 1);
        }
        long v = 0x1234_5678_9abc_80ffL;
        c.due("8 bits", x.write(0, 0, v), -1);
        c.due("8 bits", x.write(0, 0, 127), 127);
        c.due("8 bits", x.write(0, 0, 128), -128);
        c.due("8 bits", x.write(0, 0, 256), 0);
        c.due("16 bits", x.write(1, 0, v), (short) 0x80ff);
        c.due("16 bits", x.write(1, 0, 32767), 32767);
        c.due("16 bits", x.write(1, 0, 32768), -32768);
        c.due("32 bits", x.write(2, 0, v), (int) 0x9abc80ffL);
        c.due("32 bits", x.write(2, 0, 1L << 31), Integer.MIN_VALUE);
        c.due("64 bits", x.write(3, 0, v), v);
        c.due("64 bits", x.write(3, 0, Long.MIN_VALUE), Long.MIN_VALUE);
        x.write(0, 0, 256 + 7);
        c.due("as it is there", x.fill(0, 1, 0, -1), 7);
    }

    /** Something of everything that an image keeps. */
    private static PumpCrossing full() {
        PumpCrossing x = new PumpCrossing();
        x.station(40, 60, 1);
        x.station(41, 70, 0);
        x.driver(3, 0, 3, 2);
        Checks.rules(x, 0, "up 1;");
        Checks.rules(x, 1, "match when rose>0;");
        Checks.law(x, "cap 5;at 0;at 1;at 2;at 3;at 4;");
        x.run(3);
        x.cost(0, 42);
        x.level(50);
        x.level(60);
        x.rise(3, -1, -1);
        Checks.tray(x, 0, 0, 2, 2, 2, 2, 2, 2, 2, 2, 2, 2, 2, 2, 2, 2, 2, 2, 2, 2, 2, 2, 2);
        x.story(0, 0);
        x.told(60, 70, 0, 0);
        x.told(61, 70, 0, 0);
        return x;
    }

    /** All that can be asked, in one number a question. */
    private static long[] answers(PumpCrossing x) {
        x.odds();
        int run = (int) x.count(2);
        return new long[] {x.count(0), x.count(1), x.count(2), x.count(3), x.count(4), x.count(5), x.count(6),
            x.count(7), x.count(9), x.price(0), x.price(1), x.would(0), x.would(1),
            x.board(0, run - 1), x.board(1, run - 3), x.of(0, 0), x.of(0, 1), x.of(0, 2),
            x.of(1, 0), x.of(1, 1), x.of(1, 2), x.fills(0), x.round(),
            x.leads(0, false), x.gain(0, 1, 0, 1, false), x.gain(0, 1, 1, 0, true), x.reply(0, 1, 1), x.joint(0, 1),
            x.upper(), x.lower(), x.fit(0), x.fit(1)};
    }

    private static void disturb(PumpCrossing x) {
        x.driver(9, 1, 3, 0);
        x.run(300);
        x.cost(0, 1);
        x.cost(1, 90);
        x.late(0, 3);
        x.level((int) (90 + x.count(4)));
        x.rise(1, 2, 3);
        Checks.tray(x, 0, 0, 3, 3, 3, 3, 3, 3, 3, 3, 3, 3, 3, 3, 3, 3, 3, 3, 3, 3, 3, 3, 3);
        x.story(0, 0);
        x.story(1, 0);
        x.told(9, 9, 0, 0);
        Checks.rules(x, 0, "down 1;");
        x.rules(1, 0);
        Checks.law(x, "told;cost;");
        x.run(300);
    }

    private static void same(String what, long[] got, long[] want) {
        for (int k = 0; k < want.length; k++) {
            c.due(what + ", question " + k, got[k], want[k]);
        }
    }

    private static void counts() {
        PumpCrossing x = full();
        long[] want = {2, 1, 3, 3, 2, 1, 2, 3 * (61 + 62 + 63), 0, 1};
        for (int what = 0; what < want.length; what++) {
            c.due("count " + what, x.count(what), want[what]);
        }
        x.feed(0, 0, 0, 0, 0);
        c.due("bytes on the tape", x.count(8), 20);
        c.due("another", x.count(10), -1);
        c.due("another", x.count(-1), -1);
    }

    private static void allComesBack() {
        PumpCrossing x = full();
        long[] want = answers(x);
        x.image(1);
        same("an image changes nothing", answers(x), want);
        disturb(x);
        x.restore(1);
        same("as it was", answers(x), want);
        disturb(x);
        x.restore(1);
        same("as it was, twice", answers(x), want);
        PumpCrossing y = full();
        disturb(y);
        disturb(x);
        same("goes on alike", answers(x), answersLate(y));
        PumpCrossing z = new PumpCrossing();
        z.image(0);
        z.station(1, 1, 1);
        z.restore(0);
        c.due("no station", z.count(0), 0);
        c.due("the first again", z.station(2, 2, 2), 0);
    }

    private static long[] answersLate(PumpCrossing y) {
        y.image(2);
        disturb(y);
        y.restore(2);
        return answers(y);
    }

    private static void notInImages() {
        PumpCrossing x = full();
        Checks.feed(x, "keep;");
        x.image(0);
        x.odds();
        c.due("fraction", x.upper(), 2);
        Checks.law(x, "go;");
        x.feed(0, 0, 0, 0, 0);
        x.feed(0, 0, 0, 0, 0);
        x.tray(2, 0, 5);
        x.restore(0);
        c.due("the tape is not", x.count(8), 40);
        c.due("the fault is not", x.fault(0), 2);
        c.due("its place is not", x.fault(1), 0);
        c.due("the fraction is not", x.upper(), 2);
        c.due("trays are not", x.write(2, 4, 1), 1);
    }

    private static void threeImages() {
        PumpCrossing x = new PumpCrossing();
        x.station(1, 50, 0);
        Checks.rules(x, 0, "up 1;");
        for (int i = 0; i < 3; i++) {
            x.image(i);
            x.run(1);
        }
        int[] order = {1, 0, 2, 1};
        for (int i : order) {
            x.restore(i);
            c.due("image " + i, x.price(0), 50 + i);
            c.due("hours of image " + i, x.count(2), i);
        }
        x.run(5);
        x.image(1);
        x.restore(0);
        x.restore(1);
        c.due("a newer one", x.price(0), 56);
    }

    private static void runsGoOn() {
        PumpCrossing x = new PumpCrossing();
        x.station(1, 50, 0);
        Checks.rules(x, 0, "up 1 when own=50;down 1;");
        for (int k = 0; k < 10; k++) {
            x.run(300);
        }
        x.image(0);
        x.restore(0);
        c.due("the oldest board", x.board(0, 2744), 51);
        c.due("no more hours", x.run(1), 0);
        PumpCrossing y = new PumpCrossing();
        y.station(1, 50, 3);
        y.station(1, 60, 3);
        Checks.rules(y, 0, "match;");
        Checks.rules(y, 1, "up 1;");
        y.run(2);
        y.image(0);
        y.run(90);
        y.restore(0);
        y.run(4);
        c.due("what was told ahead comes back", y.board(0, 3), 60);
        c.due("what was seen late", y.board(0, 5), 62);
    }

    private static void wrongCalls() {
        PumpCrossing x = new PumpCrossing();
        int[] none = {-1, 3, Integer.MAX_VALUE};
        for (int i : none) {
            c.dueThrow("image", NoSuchElementException.class, () -> x.image(i));
            c.dueThrow("restore", NoSuchElementException.class, () -> x.restore(i));
        }
        x.image(0);
        c.dueThrow("not made", IllegalStateException.class, () -> x.restore(1));
        x.restore(0);
    }
}
