import java.util.NoSuchElementException;

/** Promises 21 to 30: level, gain, reply, even, joint, turn, gains, learn, above, punish. */
public final class GamesTest {
    private static final Checks c = new Checks();

    public static void main(String[] args) {
        levels();
        gainsOfOneHour();
        othersStand();
        repliesAndPairs();
        noEvenPair();
        likeOnes();
        turns();
        turnsOfOther();
        turnsUpAndDown();
        turnsOfThreeLevels();
        turnsOfFourLevels();
        learners();
        manyBeginnings();
        withoutLevels();
        wrongCalls();
        c.end();
    }

    /** By levels 60 and 70 a gains 100, 150, 0, 200 in pairs 00, 01, 10, 11, and b 50, 0, 150, 100. */
    private static PumpCrossing game() {
        PumpCrossing x = new PumpCrossing();
        x.station(50, 71, 0);
        x.station(50, 69, 0);
        x.driver(10, 0, 3, 1);
        x.driver(5, 1, 3, 1);
        x.level(60);
        x.level(70);
        return x;
    }

    private static void levels() {
        PumpCrossing x = new PumpCrossing();
        c.dueThrow("-1", IllegalArgumentException.class, () -> x.level(-1));
        c.dueThrow("100", IllegalArgumentException.class, () -> x.level(100));
        for (int k = 0; k < 8; k++) {
            c.due("level", x.level(10 * k), k);
        }
        c.due("a ninth", x.level(99), -1);
        c.dueThrow("a ninth that isn't above", IllegalArgumentException.class, () -> x.level(70));
        c.dueThrow("a ninth out of bounds", IllegalArgumentException.class, () -> x.level(100));
        c.due("how many", x.count(4), 8);
        PumpCrossing y = new PumpCrossing();
        c.due("the highest", y.level(99), 0);
        c.dueThrow("none above", IllegalArgumentException.class, () -> y.level(99));
    }

    private static void gainsOfOneHour() {
        PumpCrossing x = game();
        int[] a = {100, 150, 0, 200};
        int[] b = {50, 0, 150, 100};
        for (int i = 0; i < 2; i++) {
            for (int j = 0; j < 2; j++) {
                c.due("gain of a", x.gain(0, 1, i, j, false), a[2 * i + j]);
                c.due("gain of b", x.gain(0, 1, i, j, true), b[2 * i + j]);
                c.due("changed places", x.gain(1, 0, j, i, true), a[2 * i + j]);
            }
        }
        c.due("prices stay", x.price(0), 71);
        c.due("no profit", x.of(0, 0), 0);
        x.cost(0, 80);
        c.due("a loss", x.gain(0, 1, 0, 0, false), -200);
    }

    private static void othersStand() {
        PumpCrossing x = new PumpCrossing();
        x.station(50, 71, 0);
        x.station(50, 69, 0);
        x.station(50, 65, 0);
        x.driver(10, 0, 4, 2);
        x.level(60);
        x.level(67);
        x.level(68);
        c.due("not dearer than 65 and 2", x.gain(0, 1, 1, 0, false), 170);
        c.due("dearer", x.gain(0, 1, 2, 0, false), 0);
        c.due("b isn't known", x.gain(0, 1, 2, 0, true), 0);
        Checks.law(x, "told;");
        c.due("b is told", x.gain(0, 1, 2, 0, true), 100);
        x.law(0);
        Checks.rules(x, 2, "down 1;");
        x.run(1);
        c.due("the third one's price as it is now", x.gain(0, 1, 1, 0, false), 0);
    }

    private static void repliesAndPairs() {
        PumpCrossing x = game();
        c.due("reply to 0", x.reply(0, 1, 0), 0);
        c.due("reply to 1", x.reply(0, 1, 1), 1);
        c.due("reply of b to 0", x.reply(1, 0, 0), 0);
        c.due("reply of b to 1", x.reply(1, 0, 1), 0);
        c.due("even pairs", x.even(0, 1, -1), 1);
        c.due("the first", x.even(0, 1, 0), 0);
        c.due("no second", x.even(0, 1, 1), -1);
        c.due("none below", x.even(0, 1, -2), -1);
        c.due("joint", x.joint(0, 1), 11);
        PumpCrossing y = new PumpCrossing();
        y.station(10, 50, 0);
        y.station(20, 50, 0);
        y.driver(3, 0, 0, 0);
        y.driver(4, 1, 0, 0);
        y.level(20);
        y.level(30);
        y.level(40);
        c.due("each has its own", y.even(0, 1, 0), 22);
        c.due("reply", y.reply(0, 1, 1), 2);
        c.due("joint", y.joint(0, 1), 22);
        y.cost(0, 40);
        y.cost(1, 40);
        c.due("losses: nothing is best", y.even(0, 1, 0), 22);
    }

    private static void noEvenPair() {
        // a draws b's habit where b is above it; b does best above a when low and at a's level when high.
        PumpCrossing x = new PumpCrossing();
        x.station(0, 50, 0);
        x.station(0, 50, 0);
        x.driver(10, 1, 1, 0);
        x.driver(9, 1, 0, 0);
        x.level(10);
        x.level(20);
        // a: 00 0, 01 100, 10 0, 11 0. b: 00 190, 01 180, 10 190, 11 380.
        c.due("even pairs", x.even(0, 1, -1), 1);
        c.due("none gains", x.even(0, 1, 0), 0);
        x.cost(1, 5);
        // b: 00 95, 01 135: it leaves 00; a leaves 11 for 01; b leaves 10 for 11; 01 rests.
        c.due("even pairs", x.even(0, 1, -1), 1);
        c.due("the pair", x.even(0, 1, 0), 1);
        PumpCrossing y = new PumpCrossing();
        y.station(9, 50, 0);
        y.station(0, 50, 0);
        y.driver(10, 1, 1, 0);
        y.driver(9, 1, 0, 0);
        y.driver(1, 0, 0, 0);
        y.level(10);
        y.level(20);
        y.cost(1, 5);
        // a: 00 1, 01 11, 10 11, 11 11 (its one driver at 20 gives 11). b: 00 95, 01 135, 10 95, 11 285.
        c.due("like ones rest too", y.even(0, 1, -1), 2);
        c.due("first", y.even(0, 1, 0), 1);
        c.due("second", y.even(0, 1, 1), 11);
        y.cost(0, 8);
        // a: 00 2, 01 22, 10 12, 11 12: it leaves 00 for 10 and 11 for 01; b leaves 00 and 10; 01 rests.
        c.due("one again", y.even(0, 1, -1), 1);
        y.driver(8, 1, 1, 0);
        // b: 00 135, 01 135, 10 135, 11 405. a: 00 2, 01 38, 10 12, 11 12.
        c.due("01 rests, b having like ones", y.even(0, 1, 0), 1);
        y.driver(1, 1, 1, 0);
        // b: 00 140, 01 135: it leaves 01 for 00; a 00 for 10; b 10 for 11; a 11 for 01.
        c.due("round and round", y.even(0, 1, -1), 0);
        c.due("no first", y.even(0, 1, 0), -1);
        c.due("above nothing", y.above(0, 1, 5, 1), -1);
    }

    private static void likeOnes() {
        PumpCrossing x = new PumpCrossing();
        x.station(1, 50, 0);
        x.station(1, 50, 0);
        x.level(10);
        x.level(20);
        x.level(30);
        c.due("reply: the least", x.reply(0, 1, 2), 0);
        c.due("all pairs are even", x.even(0, 1, -1), 9);
        for (int k = 0; k < 9; k++) {
            c.due("in order", x.even(0, 1, k), k / 3 * 10 + k % 3);
        }
        c.due("not so many", x.even(0, 1, 9), -1);
        c.due("joint: the least", x.joint(0, 1), 0);
        c.due("turn: the least", x.turn(0, 1, 2, 40, 39), 0);
        c.due("come to the least", x.learn(0, 1, 2000, 7), 0);
        c.due("none above", x.above(0, 1, 300, 20), 0);
    }

    private static void turns() {
        PumpCrossing x = game();
        c.due("one turn", x.turn(0, 1, 1, 1, 0), 1);
        c.due("gains of a", x.gains(0, 1, 1, 1, false), 200);
        c.due("gains of b", x.gains(0, 1, 1, 1, true), 100);
        c.due("two turns: a", x.turn(0, 1, 1, 2, 0), 0);
        c.due("two turns: b", x.turn(0, 1, 1, 2, 1), 0);
        c.due("gains of a", x.gains(0, 1, 1, 2, false), 250);
        c.due("gains of b", x.gains(0, 1, 1, 2, true), 50);
        // Of three b has 100 by either level behind 0 and 200 by either behind 1, and takes the least.
        for (int k = 0; k < 3; k++) {
            c.due("three turns", x.turn(0, 1, 1, 3, k), 0);
        }
        c.due("gains of a", x.gains(0, 1, 1, 3, false), 350);
        c.due("gains of b", x.gains(0, 1, 1, 3, true), 100);
        c.due("no such turn", x.turn(0, 1, 1, 3, 3), -1);
        c.due("no such turn", x.turn(0, 1, 1, 3, -1), -1);
        c.due("the longest", x.turn(0, 1, 0, 40, 40), -1);
        c.due("the longest: all at 0", x.gains(0, 1, 0, 40, false), 4000);
    }

    private static void turnsOfOther() {
        // Each has its own: a sets the highest at once, b waits for its turn.
        PumpCrossing x = new PumpCrossing();
        x.station(10, 50, 0);
        x.station(20, 50, 0);
        x.driver(3, 0, 0, 0);
        x.driver(4, 1, 0, 0);
        x.level(20);
        x.level(30);
        x.level(40);
        for (int k = 0; k < 4; k++) {
            c.due("the highest", x.turn(0, 1, 0, 4, k), 2);
        }
        c.due("4 times 3 times 30", x.gains(0, 1, 0, 4, false), 360);
        c.due("0 once and 3 times 4 times 20", x.gains(0, 1, 0, 4, true), 240);
        c.due("from 1: 40 and 240", x.gains(0, 1, 1, 4, true), 280);
    }

    private static void turnsUpAndDown() {
        PumpCrossing x = new PumpCrossing();
        x.station(12, 50, 0);
        x.station(5, 50, 0);
        x.driver(2, 1, 0, 0);
        x.driver(4, 0, 2, 0);
        x.level(10);
        x.level(20);
        // a: 00 -8, 01 -8, 10 0, 11 32. b: 00 10, 01 30, 10 30, 11 30.
        // Turn 3: b sets 1 behind 0, and 0 behind 1, of like ones. Turn 2: a sets 1: 0 behind 0, 32 behind 1.
        // Turn 1: b has 60 more by either: behind 0 it sets 1, behind 1 the least, 0; a has 24 by 0 and 0 by 1.
        // Turn 0: by 0 a has -8 and 24, by 1 it has 0 behind 0 and 32 behind 1.
        int[][] due = {{0, 1, 1, 0, 16, 100}, {1, 0, 1, 0, 32, 120}};
        turnsOf(x, due, 4);
    }

    private static void turnsOfThreeLevels() {
        PumpCrossing x = new PumpCrossing();
        x.station(0, 50, 0);
        x.station(10, 50, 0);
        x.driver(4, 0, 1, 2);
        x.driver(6, 0, 2, 2);
        x.level(10);
        x.level(15);
        x.level(20);
        // By a program of its own, that tries all rows of levels.
        int[][] due = {{0, 0, 2, 1, 1, 510, 30}, {1, 0, 2, 1, 1, 520, 30}, {2, 0, 2, 1, 1, 590, 30}};
        turnsOf(x, due, 5);
    }

    private static void turnsOfFourLevels() {
        PumpCrossing x = new PumpCrossing();
        x.station(50, 60, 0);
        x.station(50, 60, 0);
        x.driver(10, 0, 3, 1);
        x.driver(10, 1, 3, 1);
        x.level(54);
        x.level(57);
        x.level(60);
        x.level(63);
        // By the same program. Each goes below the other one, but up to the highest when it doesn't pay any more.
        int[][] four = {{0, 3, 2, 1, 320, 180}, {0, 3, 2, 1, 360, 140}, {0, 3, 2, 1, 360, 140}, {0, 3, 2, 1, 360, 140}};
        turnsOf(x, four, 4);
        int[][] six = {{0, 0, 0, 3, 2, 1, 400, 260}, {0, 0, 0, 3, 2, 1, 440, 220}, {1, 0, 0, 3, 2, 1, 460, 260},
            {2, 1, 0, 3, 2, 1, 560, 280}};
        turnsOf(x, six, 6);
    }

    /** By where b stands ahead: the levels of h turns, and the gains of a and b. */
    private static void turnsOf(PumpCrossing x, int[][] due, int h) {
        for (int j = 0; j < due.length; j++) {
            for (int k = 0; k < h; k++) {
                c.due("b at " + j + ", turn " + k + " of " + h, x.turn(0, 1, j, h, k), due[j][k]);
            }
            c.due("b at " + j + ", gains of a in " + h, x.gains(0, 1, j, h, false), due[j][h]);
            c.due("b at " + j + ", gains of b in " + h, x.gains(0, 1, j, h, true), due[j][h + 1]);
        }
    }

    private static void learners() {
        PumpCrossing x = game();
        // Seed 1: draws 38 (tries) and 38526 (level 0) of a, 13 (tries) and 50283 (level 1) of b: from 01 to 00.
        c.due("seed 1", x.learn(0, 1, 1, 1), 0);
        c.due("answer to 1: 0 gained by 1, like 0", x.punish(0, 1, 1, 1, 1), 0);
        // Seed 25: both try 1, gain by it and stay.
        c.due("seed 25", x.learn(0, 1, 1, 25), 11);
        c.due("answer to 1", x.punish(0, 1, 1, 25, 1), 1);
        c.due("answer to 0", x.punish(0, 1, 1, 25, 0), 0);
        c.due("seed 11", x.learn(0, 1, 30, 11), 11);
        c.due("seed 12", x.learn(0, 1, 30, 12), 0);
        c.due("again", x.learn(0, 1, 30, 11), 11);
        c.due("nights at most", x.learn(0, 1, 2000, 3), x.learn(0, 1, 2000, 3));
        c.due("any seed", x.learn(0, 1, 1, Integer.MIN_VALUE) >= 0, true);
        c.due("prices stay", x.price(0), 71);
    }

    private static void manyBeginnings() {
        PumpCrossing x = game();
        c.due("seeds 1 to 10", x.above(0, 1, 30, 10), 0);
        c.due("seeds 1 to 11", x.above(0, 1, 30, 11), 1);
        c.due("seeds 1 to 20", x.above(0, 1, 30, 20), 1);
        int over = 0;
        for (int seed = 1; seed <= 20; seed++) {
            over += x.learn(0, 1, 300, seed) == 11 ? 1 : 0;
        }
        c.due("300 nights", x.above(0, 1, 300, 20), over);
    }

    private static void withoutLevels() {
        PumpCrossing x = new PumpCrossing();
        x.station(1, 1, 0);
        x.station(1, 1, 0);
        c.due("even", x.even(0, 1, -1), 0);
        c.due("even", x.even(0, 1, 0), -1);
        c.due("joint", x.joint(0, 1), -1);
        c.due("learn", x.learn(0, 1, 1, 1), -1);
        c.due("above", x.above(0, 1, 1, 1), -1);
        c.dueThrow("gain", IndexOutOfBoundsException.class, () -> x.gain(0, 1, 0, 0, true));
        c.dueThrow("reply", IndexOutOfBoundsException.class, () -> x.reply(0, 1, 0));
        c.dueThrow("turn", IndexOutOfBoundsException.class, () -> x.turn(0, 1, 0, 1, 0));
        c.dueThrow("gains", IndexOutOfBoundsException.class, () -> x.gains(0, 1, 0, 1, true));
        c.dueThrow("punish", IndexOutOfBoundsException.class, () -> x.punish(0, 1, 1, 1, 0));
    }

    private static void wrongCalls() {
        PumpCrossing x = game();
        int[][] none = {{-1, 0}, {0, 2}, {2, 2}, {-1, -1}, {2, 0}};
        for (int[] p : none) {
            wrongPair(x, p[0], p[1], NoSuchElementException.class);
        }
        wrongPair(x, 0, 0, IllegalArgumentException.class);
        wrongPair(x, 1, 1, IllegalArgumentException.class);
        int[] noLevels = {-1, 2, Integer.MAX_VALUE};
        for (int l : noLevels) {
            c.dueThrow("gain", IndexOutOfBoundsException.class, () -> x.gain(0, 1, l, 0, true));
            c.dueThrow("gain", IndexOutOfBoundsException.class, () -> x.gain(0, 1, 0, l, true));
            c.dueThrow("reply", IndexOutOfBoundsException.class, () -> x.reply(0, 1, l));
            c.dueThrow("turn", IndexOutOfBoundsException.class, () -> x.turn(0, 1, l, 1, 9));
            c.dueThrow("gains", IndexOutOfBoundsException.class, () -> x.gains(0, 1, l, 1, true));
            c.dueThrow("punish", IndexOutOfBoundsException.class, () -> x.punish(0, 1, 1, 1, l));
        }
        int[] noTurns = {0, 41, -1};
        for (int h : noTurns) {
            c.dueThrow("turn", IllegalArgumentException.class, () -> x.turn(0, 1, 9, h, 0));
            c.dueThrow("gains", IllegalArgumentException.class, () -> x.gains(0, 1, 9, h, true));
        }
        int[] noNights = {0, -1, 2001};
        for (int n : noNights) {
            c.dueThrow("learn", IllegalArgumentException.class, () -> x.learn(0, 1, n, 1));
            c.dueThrow("punish", IllegalArgumentException.class, () -> x.punish(0, 1, n, 1, 9));
            c.dueThrow("above", IllegalArgumentException.class, () -> x.above(0, 1, n, 1));
        }
        c.dueThrow("above, 301 nights", IllegalArgumentException.class, () -> x.above(0, 1, 301, 1));
        c.dueThrow("above, 0 seeds", IllegalArgumentException.class, () -> x.above(0, 1, 1, 0));
        c.dueThrow("above, 21 seeds", IllegalArgumentException.class, () -> x.above(0, 1, 1, 21));
    }

    private static void wrongPair(PumpCrossing x, int a, int b, Class<?> want) {
        c.dueThrow("gain", want, () -> x.gain(a, b, 9, 9, true));
        c.dueThrow("reply", want, () -> x.reply(a, b, 9));
        c.dueThrow("even", want, () -> x.even(a, b, 0));
        c.dueThrow("joint", want, () -> x.joint(a, b));
        c.dueThrow("turn", want, () -> x.turn(a, b, 9, 0, 0));
        c.dueThrow("gains", want, () -> x.gains(a, b, 9, 0, true));
        c.dueThrow("learn", want, () -> x.learn(a, b, 0, 1));
        c.dueThrow("above", want, () -> x.above(a, b, 0, 0));
        c.dueThrow("punish", want, () -> x.punish(a, b, 0, 0, 9));
    }
}
