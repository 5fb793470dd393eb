import java.util.NoSuchElementException;
import java.util.function.Supplier;
import java.util.function.ToLongFunction;

/** Promises 21 to 30 (level to punish): a test for each sentence that names an edge. */
public final class GamesEdgesTest {
    private static final Class<?> ARGUMENT = IllegalArgumentException.class;
    private static final Class<?> ELEMENT = NoSuchElementException.class;
    private static final Class<?> INDEX = IndexOutOfBoundsException.class;

    /** A call with two STATIONS in it. */
    private interface Pair {
        long of(PumpCrossing x, int a, int b);
    }

    private static final Checks c = new Checks();
    private static final Twins twins = new Twins(c);

    public static void main(String[] args) {
        eightLevels();
        levelsPrice();
        levelsGrow();
        twoStations();
        noSuchLevel();
        throwsInOrder();
        askingChangesNothing();
        greatestGains();
        othersPrices();
        repliesAtLikeOnes();
        evenPairs();
        evenAtLikeOnes();
        jointAtLikeOnes();
        oneLevel();
        withoutLevels();
        turnsMany();
        turnsAsked();
        turnsAtLikeOnes();
        turnsGains();
        nights();
        triesBelow();
        beginAtTheHighest();
        ofLikeOnesTheLeast();
        quotientsTowardsNought();
        tenMoreNights();
        ordersOfANight();
        anySeed();
        aboveNumbers();
        aboveTheFirst();
        aboveWithoutOne();
        punishedBy();
        c.end();
    }

    /** Two levels, 60 and 70: a gains 100, 150, 0, 200 in pairs 00, 01, 10, 11, and b 50, 0, 150, 100. */
    private static PumpCrossing game() {
        PumpCrossing x = new PumpCrossing();
        x.station(50, 71, 0);
        x.station(50, 69, 0);
        x.driver(10, 0, 3, 1);
        x.driver(5, 1, 3, 1);
        x.level(60);
        x.level(70);
        return x;
    }

    /** Two levels, 10 and 20, by which all is sold below its cost. */
    private static PumpCrossing losses() {
        PumpCrossing x = new PumpCrossing();
        x.station(30, 71, 0);
        x.station(30, 69, 0);
        x.driver(1, 0, 3, 1);
        x.driver(1, 1, 3, 1);
        x.level(10);
        x.level(20);
        return x;
    }

    /** Two stations and that many levels, but nobody who fills: all gains are alike. */
    private static PumpCrossing alike(int levels) {
        PumpCrossing x = new PumpCrossing();
        x.station(1, 50, 0);
        x.station(1, 50, 0);
        for (int k = 0; k < levels; k++) {
            x.level(10 + k);
        }
        return x;
    }

    // ---- Promise 21

    /** "LEVELS, at most 8"; "A LEVEL more: its number; NONE if there are 8". */
    private static void eightLevels() {
        PumpCrossing x = new PumpCrossing();
        for (int k = 0; k < 8; k++) {
            c.due("level " + k, x.level(k), k);
            c.due("levels", x.count(4), k + 1);
        }
        twins.unmoved("a ninth", -1, Twins::full, y -> y.level(99));
        twins.refused("a ninth that isn't above", ARGUMENT, Twins::full, y -> y.level(57));
        twins.refused("a ninth of 100", ARGUMENT, Twins::full, y -> y.level(100));
    }

    /** "IllegalArgumentException: it isn't 0 to 99". */
    private static void levelsPrice() {
        twins.bounds("the first level", ARGUMENT, PumpCrossing::new, 0, 99, (x, v) -> x.level(v));
        PumpCrossing x = alike(0);
        x.driver(1, 0, 0, 0);
        x.level(0);
        x.level(99);
        c.due("0", x.gain(0, 1, 0, 0, false), -1);
        c.due("99", x.gain(0, 1, 1, 0, false), 98);
    }

    /** "PRICES that grow as they are told"; "or not above the one ahead". */
    private static void levelsGrow() {
        twins.bounds("a level behind 72", ARGUMENT, Twins::running, 73, 99, (x, v) -> x.level(v));
        twins.refused("far below", ARGUMENT, Twins::running, x -> x.level(0));
        PumpCrossing x = new PumpCrossing();
        x.level(99);
        for (int price = 0; price < 100; price++) {
            int p = price;
            c.dueThrow("none is above 99", ARGUMENT, () -> x.level(p));
        }
    }

    // ---- what the games share

    /** "no such STATION (as everywhere)"; "IllegalArgumentException: a is b". */
    private static void twoStations() {
        pairs("gain", (x, a, b) -> x.gain(a, b, 0, 0, false));
        pairs("reply", (x, a, b) -> x.reply(a, b, 0));
        pairs("even", (x, a, b) -> x.even(a, b, 0));
        pairs("joint", (x, a, b) -> x.joint(a, b));
        pairs("turn", (x, a, b) -> x.turn(a, b, 0, 1, 0));
        pairs("gains", (x, a, b) -> x.gains(a, b, 0, 1, false));
        pairs("learn", (x, a, b) -> x.learn(a, b, 1, 1));
        pairs("above", (x, a, b) -> x.above(a, b, 1, 1));
        pairs("punish", (x, a, b) -> x.punish(a, b, 1, 1, 0));
    }

    private static void pairs(String what, Pair call) {
        int[][] fine = {{0, 1}, {1, 0}};
        for (int[] p : fine) {
            PumpCrossing x = Twins.running();
            c.dueThrow(what + " of two", null, () -> call.of(x, p[0], p[1]));
        }
        PumpCrossing four = Twins.full();
        c.dueThrow(what + " of 0 and 3", null, () -> call.of(four, 0, 3));
        c.dueThrow(what + " of 3 and 0", null, () -> call.of(four, 3, 0));
        int[] none = {-1, 2, Integer.MIN_VALUE, Integer.MAX_VALUE};
        for (int s : none) {
            twins.refused(what + ", a is " + s, ELEMENT, Twins::running, x -> call.of(x, s, 0));
            twins.refused(what + ", b is " + s, ELEMENT, Twins::running, x -> call.of(x, 0, s));
            twins.refused(what + ", both are " + s, ELEMENT, Twins::running, x -> call.of(x, s, s));
        }
        twins.refused(what + ", a is 4", ELEMENT, Twins::full, x -> call.of(x, 4, 0));
        twins.refused(what + ", b is 4", ELEMENT, Twins::full, x -> call.of(x, 0, 4));
        twins.refused(what + ", a is b", ARGUMENT, Twins::running, x -> call.of(x, 0, 0));
        twins.refused(what + ", a is b", ARGUMENT, Twins::full, x -> call.of(x, 3, 3));
        twins.refused(what + " of none", ELEMENT, PumpCrossing::new, x -> call.of(x, 0, 1));
    }

    /** "IndexOutOfBoundsException: no such LEVEL (as everywhere)". */
    private static void noSuchLevel() {
        levels("gain, i", (x, l) -> x.gain(0, 1, l, 0, false));
        levels("gain, j", (x, l) -> x.gain(0, 1, 0, l, true));
        levels("reply", (x, l) -> x.reply(0, 1, l));
        levels("turn", (x, l) -> x.turn(0, 1, l, 1, 0));
        levels("gains", (x, l) -> x.gains(0, 1, l, 1, true));
        levels("punish", (x, l) -> x.punish(0, 1, 1, 1, l));
    }

    private static void levels(String what, Twins.Call call) {
        twins.bounds(what, INDEX, Twins::running, 0, 2, call);
        twins.bounds(what + " of eight", INDEX, Twins::full, 0, 7, call);
        twins.refused(what + " of none", INDEX, () -> alike(0), x -> call.of(x, 0));
    }

    /** "Of several throws of a call that one comes that is told first", and ahead of an answer NONE. */
    private static void throwsInOrder() {
        order("gain", ELEMENT, x -> x.gain(2, 2, 9, 9, true));
        order("gain", ARGUMENT, x -> x.gain(1, 1, 9, 9, true));
        order("reply", ELEMENT, x -> x.reply(0, 2, 9));
        order("reply", ARGUMENT, x -> x.reply(0, 0, 9));
        order("turn", ELEMENT, x -> x.turn(0, 2, 9, 0, 0));
        order("turn, a is b", ARGUMENT, x -> x.turn(0, 0, 9, 1, 0));
        order("turn, h", ARGUMENT, x -> x.turn(0, 1, 9, 41, 0));
        order("turn, j and k", INDEX, x -> x.turn(0, 1, 9, 1, 9));
        order("turn, h and k", ARGUMENT, x -> x.turn(0, 1, 0, 0, 0));
        order("gains", ELEMENT, x -> x.gains(2, 0, 9, 0, true));
        order("gains, a is b", ARGUMENT, x -> x.gains(0, 0, 9, 1, true));
        order("gains, h", ARGUMENT, x -> x.gains(0, 1, 9, 0, true));
        order("learn", ELEMENT, x -> x.learn(2, 0, 0, 1));
        order("above", ELEMENT, x -> x.above(0, 2, 0, 0));
        order("punish", ELEMENT, x -> x.punish(0, 2, 0, 1, 9));
        order("punish, a is b", ARGUMENT, x -> x.punish(1, 1, 1, 1, 9));
        order("punish, n", ARGUMENT, x -> x.punish(0, 1, 0, 1, 9));
        Supplier<PumpCrossing> none = () -> alike(0);
        twins.refused("joint without levels, a is b", ARGUMENT, none, x -> x.joint(0, 0));
        twins.refused("even without levels, a is b", ARGUMENT, none, x -> x.even(1, 1, 0));
        twins.refused("learn without levels, n", ARGUMENT, none, x -> x.learn(0, 1, 0, 1));
        twins.refused("above without levels, n", ARGUMENT, none, x -> x.above(0, 1, 301, 1));
        twins.refused("above without levels, many", ARGUMENT, none, x -> x.above(0, 1, 1, 21));
        twins.refused("punish without levels, n", ARGUMENT, none, x -> x.punish(0, 1, 2001, 1, 0));
        twins.refused("turn without levels, h", ARGUMENT, none, x -> x.turn(0, 1, 0, 41, 0));
    }

    private static void order(String what, Class<?> want, ToLongFunction<PumpCrossing> call) {
        twins.refused(what + ": told first", want, Twins::running, call::applyAsLong);
    }

    /** Games are only asked: PRICES, PROFIT and all else stay. */
    private static void askingChangesNothing() {
        Supplier<PumpCrossing> all = Twins::running;
        twins.unmoved("gain", all.get().gain(0, 1, 2, 0, true), all, x -> x.gain(0, 1, 2, 0, true));
        twins.unmoved("reply", all.get().reply(0, 1, 2), all, x -> x.reply(0, 1, 2));
        twins.unmoved("even", all.get().even(0, 1, -1), all, x -> x.even(0, 1, -1));
        twins.unmoved("joint", all.get().joint(0, 1), all, x -> x.joint(0, 1));
        twins.unmoved("turn", all.get().turn(0, 1, 2, 40, 39), all, x -> x.turn(0, 1, 2, 40, 39));
        twins.unmoved("gains", all.get().gains(0, 1, 2, 40, true), all, x -> x.gains(0, 1, 2, 40, true));
        twins.unmoved("learn", all.get().learn(0, 1, 99, 9), all, x -> x.learn(0, 1, 99, 9));
        twins.unmoved("above", all.get().above(0, 1, 99, 9), all, x -> x.above(0, 1, 99, 9));
        twins.unmoved("punish", all.get().punish(0, 1, 99, 9, 2), all, x -> x.punish(0, 1, 99, 9, 2));
    }

    // ---- Promises 22 to 25

    /** "GAIN ...: PROFIT of one HOUR", at its greatest and at its least. */
    private static void greatestGains() {
        PumpCrossing x = new PumpCrossing();
        x.station(0, 50, 0);
        x.station(99, 50, 0);
        for (int k = 0; k < 6; k++) {
            x.driver(99, k % 2, 0, 0);
        }
        x.level(0);
        x.level(99);
        c.due("the greatest of three kinds", x.gain(0, 1, 1, 0, false), 3 * 99 * 99);
        c.due("the least of three kinds", x.gain(0, 1, 1, 0, true), -3 * 99 * 99);
        c.due("40 times", x.gains(0, 1, 0, 40, false), 40 * 3 * 99 * 99);
        c.due("once", x.gains(0, 1, 0, 40, true), -3 * 99 * 99);
    }

    /** "(others' PRICES as they are)": now, and not as they were told. */
    private static void othersPrices() {
        PumpCrossing x = new PumpCrossing();
        for (int s = 0; s < 4; s++) {
            x.station(10, 50, 0);
        }
        x.driver(1, 0, 4, 0);
        x.driver(1, 0, 8, 1);
        x.level(50);
        x.level(51);
        c.due("as told, at them", x.gain(0, 1, 0, 0, false), 80);
        c.due("as told, one above", x.gain(0, 1, 1, 0, false), 41);
        Checks.rules(x, 2, "down 1;");
        Checks.rules(x, 3, "down 1;");
        x.run(1);
        c.due("as they are", x.gain(0, 1, 0, 0, false), 40);
        c.due("as they are, one above", x.gain(0, 1, 1, 0, false), 0);
        c.due("b of others", x.gain(0, 1, 1, 0, true), 0);
    }

    /** "REPLY ...: LEVEL with the greatest GAIN; of like ones the least". */
    private static void repliesAtLikeOnes() {
        for (int j = 0; j < 8; j++) {
            c.due("all alike", alike(8).reply(0, 1, j), 0);
        }
        PumpCrossing x = alike(0);
        x.driver(3, 0, 2, 0);
        x.level(10);
        x.level(12);
        x.level(20);
        x.level(30);
        c.due("like ones: 27 by 0, none by 1 and above", x.reply(0, 1, 0), 0);
        c.due("the greatest is in the middle", x.reply(0, 1, 2), 2);
        c.due("the greatest is the last", x.reply(0, 1, 3), 3);
        x.cost(0, 30);
        c.due("losses: none by 1, 2, 3", x.reply(0, 1, 0), 1);
    }

    /** "How many EVEN pairs (k NONE), or the k-th as 10 i + j; NONE: not so many". */
    private static void evenPairs() {
        PumpCrossing x = game();
        c.due("how many", x.even(0, 1, -1), 1);
        c.due("the first", x.even(0, 1, 0), 0);
        int[] others = {1, 2, 64, -2, Integer.MIN_VALUE, Integer.MAX_VALUE};
        for (int k : others) {
            c.due("not so many: " + k, x.even(0, 1, k), -1);
        }
    }

    /** "pairs (i, j) in which none gains by another LEVEL alone; in order by i, then j". */
    private static void evenAtLikeOnes() {
        PumpCrossing x = alike(8);
        c.due("all are even", x.even(0, 1, -1), 64);
        for (int k = 0; k < 64; k++) {
            c.due("in order", x.even(0, 1, k), k / 8 * 10 + k % 8);
        }
        c.due("not so many", x.even(0, 1, 64), -1);
    }

    /** "the pair with the greatest GAINS together; of like ones the least i, then j". */
    private static void jointAtLikeOnes() {
        c.due("all alike", alike(8).joint(0, 1), 0);
        PumpCrossing x = alike(0);
        x.driver(1, 0, 0, 0);
        x.level(10);
        x.level(20);
        x.level(30);
        c.due("by a alone: the least j", x.joint(0, 1), 20);
        c.due("by b alone: the least i", x.joint(1, 0), 2);
        PumpCrossing y = losses();
        c.due("losses: the least one", y.joint(0, 1), 11);
    }

    /** One LEVEL is the fewest by which there is a game. */
    private static void oneLevel() {
        PumpCrossing x = alike(1);
        x.driver(1, 0, 3, 0);
        c.due("gain", x.gain(0, 1, 0, 0, false), 9);
        c.due("reply", x.reply(0, 1, 0), 0);
        c.due("even", x.even(0, 1, -1), 1);
        c.due("the first", x.even(0, 1, 0), 0);
        c.due("joint", x.joint(0, 1), 0);
        c.due("turn", x.turn(0, 1, 0, 40, 39), 0);
        c.due("gains", x.gains(0, 1, 0, 40, false), 360);
        c.due("learn", x.learn(0, 1, 2000, -1), 0);
        c.due("above", x.above(0, 1, 300, 20), 0);
        c.due("punish", x.punish(0, 1, 2000, -1, 0), 0);
    }

    /** "NONE without LEVELS" (joint, learn), "NONE without one" (above), "not so many" (even). */
    private static void withoutLevels() {
        Supplier<PumpCrossing> none = () -> alike(0);
        twins.unmoved("how many even", 0, none, x -> x.even(0, 1, -1));
        twins.unmoved("even", -1, none, x -> x.even(0, 1, 0));
        twins.unmoved("joint", -1, none, x -> x.joint(0, 1));
        twins.unmoved("learn", -1, none, x -> x.learn(0, 1, 2000, 1));
        twins.unmoved("above", -1, none, x -> x.above(0, 1, 300, 20));
    }

    // ---- Promises 26, 27

    /** "(h 1 to 40)"; "IllegalArgumentException: a is b, h". */
    private static void turnsMany() {
        twins.bounds("turn, h", ARGUMENT, Twins::running, 1, 40, (x, v) -> x.turn(0, 1, 0, v, 0));
        twins.bounds("gains, h", ARGUMENT, Twins::running, 1, 40, (x, v) -> x.gains(0, 1, 0, v, true));
    }

    /** "The LEVEL that is set in TURN k of h ...; NONE for others (k)". */
    private static void turnsAsked() {
        PumpCrossing x = game();
        c.due("the only turn", x.turn(0, 1, 1, 1, 0), 1);
        c.due("behind it", x.turn(0, 1, 1, 1, 1), -1);
        c.due("the last of 40", x.turn(0, 1, 1, 40, 39) >= 0, true);
        int[] others = {-1, -2, 40, 41, Integer.MIN_VALUE, Integer.MAX_VALUE};
        for (int k : others) {
            c.due("no turn " + k, x.turn(0, 1, 1, 40, k), -1);
            twins.unmoved("no turn " + k, -1, Twins::running, y -> y.turn(0, 1, 1, 40, k));
        }
    }

    /** "of like ones the least LEVEL". */
    private static void turnsAtLikeOnes() {
        PumpCrossing x = alike(8);
        for (int k = 0; k < 40; k++) {
            c.due("all alike, turn " + k, x.turn(0, 1, 7, 40, k), 0);
        }
        c.due("b stands at 7 ahead", x.turn(0, 1, 7, 1, 0), 0);
    }

    /** "a, b, a, .. set their LEVEL, and both GAIN then by what both stand at": from the first TURN to the last. */
    private static void turnsGains() {
        PumpCrossing x = game();
        c.due("one turn: a", x.gains(0, 1, 1, 1, false), 200);
        c.due("one turn: b gains without its turn", x.gains(0, 1, 1, 1, true), 100);
        c.due("two turns: a knows that b will go below", x.turn(0, 1, 1, 2, 0), 0);
        c.due("two turns: a", x.gains(0, 1, 1, 2, false), 250);
        c.due("two turns: b", x.gains(0, 1, 1, 2, true), 50);
        c.due("40 turns, b at 0: a", x.gains(0, 1, 0, 40, false), 40 * 100);
        c.due("40 turns, b at 0: b", x.gains(0, 1, 0, 40, true), 40 * 50);
        c.due("40 turns, b at 1: a", x.gains(0, 1, 1, 40, false), 150 + 39 * 100);
        c.due("40 turns, b at 1: b", x.gains(0, 1, 1, 40, true), 39 * 50);
    }

    // ---- Promises 28 to 30

    /** "(n 1 to 2000)", "n (1 to 300 here)"; "IllegalArgumentException: a is b, n". */
    private static void nights() {
        twins.bounds("learn, n", ARGUMENT, Twins::running, 1, 2000, (x, v) -> x.learn(0, 1, v, 1));
        twins.bounds("punish, n", ARGUMENT, Twins::running, 1, 2000, (x, v) -> x.punish(0, 1, v, 1, 0));
        twins.bounds("above, n", ARGUMENT, Twins::running, 1, 300, (x, v) -> x.above(0, 1, v, 1));
        PumpCrossing x = game();
        c.due("one night", x.learn(0, 1, 1, 25), 11);
        c.due("2000 nights", x.punish(0, 1, 2000, 0, 1), 1);
        c.due("2000 nights", x.punish(0, 1, 2000, 0, 0), 0);
    }

    // The numbers below were found by a program of its own: each is where the other reading would answer otherwise.

    /** "if DRAW mod 100 is below 50 less 50 times NIGHT by n": not at it, and one below it. */
    private static void triesBelow() {
        PumpCrossing x = game();
        c.due("a draw of the bound (else 11)", x.learn(0, 1, 2, 153), 0);
        c.due("a draw one below it (else 0)", x.learn(0, 1, 1, 42), 11);
        c.due("the bound by a quotient towards 0 (else 11)", x.learn(0, 1, 8, 268), 0);
        c.due("the bound in the second night (else 0)", x.learn(0, 1, 2, 25), 11);
    }

    /** "both begin at the highest LEVEL", "all 0 at first". */
    private static void beginAtTheHighest() {
        c.due("from 11 (else 10)", losses().learn(0, 1, 1, 1), 0);
        c.due("a's table of 0s (else of 1s: 1)", losses().learn(0, 1, 8, 24), 11);
        c.due("a's table of 0s (else of -1s: 11)", losses().learn(0, 1, 40, 71), 1);
        c.due("b's table of 0s (else of 1s: 11)", losses().learn(0, 1, 10, 29), 10);
        c.due("b's table of 0s (else of -1s: 1)", losses().learn(0, 1, 40, 25), 11);
        PumpCrossing x = game();
        c.due("the row of the highest alone is learnt", x.punish(0, 1, 1, 25, 1), 1);
        c.due("the other row is all 0", x.punish(0, 1, 1, 25, 0), 0);
        c.due("all 0 again at each beginning", x.learn(0, 1, 1, 25), 11);
        c.due("all 0 again at each beginning", x.learn(0, 1, 1, 1), 0);
    }

    /** "that with the greatest of its row ...; of like ones the least". */
    private static void ofLikeOnesTheLeast() {
        c.due("rows of 0s", alike(8).learn(0, 1, 2000, 7), 0);
        c.due("rows of 0s and a loss (else 11)", losses().learn(0, 1, 1, 1), 0);
        for (int d = 0; d < 8; d++) {
            c.due("b's rows of 0s", alike(8).punish(0, 1, 2000, 7, d), 0);
        }
    }

    /** "quotients towards 0", which shows where numbers are below 0. */
    private static void quotientsTowardsNought() {
        c.due("by 8 at the end (else 0)", losses().learn(0, 1, 4, 18), 11);
        c.due("7 m by 8 (else 11)", losses().learn(0, 1, 8, 15), 10);
        c.due("7 m by 8 and not 7 times m by 8 (else 11)", losses().learn(0, 1, 10, 87), 10);
        c.due("8 GAIN (else 10)", losses().learn(0, 1, 5, 7), 11);
        c.due("8 GAIN and not 7 or 9 (else 1)", game().learn(0, 1, 20, 136), 0);
        PumpCrossing x = priced(35, 32, 29, 31, 33);
        x.driver(2, 0, 3, 3);
        x.driver(1, 1, 3, 3);
        c.due("7 m by 8, and not 64 GAIN and 7 m by 8 (else 22)", x.learn(0, 1, 43, 11), 12);
        PumpCrossing y = priced(60, 57, 59, 61);
        y.driver(1, 0, 3, 3);
        y.driver(3, 1, 3, 3);
        c.due("7 m by 8, and not 64 GAIN and 7 m by 8 (else 1)", y.punish(0, 1, 25, 1, 0), 0);
    }

    /** "Behind these NIGHTS ten more without DRAWS (tables stay)". */
    private static void tenMoreNights() {
        c.due("ten and not nine or eleven (else 0)", game().learn(0, 1, 2, 113), 11);
        c.due("ten and not none (else 1)", game().learn(0, 1, 1, 1), 0);
        c.due("tables stay (else 0)", game().learn(0, 1, 3, 38), 10);
    }

    /** "first a, then b (by LEVELS of the NIGHT ahead)", "DRAW (the next one)", "its row by the other's LEVEL now". */
    private static void ordersOfANight() {
        c.due("first a (else 10), b by the night ahead (else 0)", game().learn(0, 1, 3, 25), 1);
        c.due("the next draw (else 11)", game().learn(0, 1, 1, 3), 0);
        c.due("the other's level now (else 0)", game().learn(0, 1, 5, 285), 11);
    }

    /** "x (an int, SEED at first) becomes 1103515245 x + 12345; it is x >>> 16": any int, and none is below 0. */
    private static void anySeed() {
        int[][] due = {{0, 11, 0}, {-1, 11, 11}, {Integer.MIN_VALUE, 11, 0}, {Integer.MAX_VALUE, 10, 0}, {42, 0, 10}};
        for (int[] d : due) {
            c.due("losses, seed " + d[0], losses().learn(0, 1, 2, d[0]), d[1]);
            c.due("game, seed " + d[0], game().learn(0, 1, 50, d[0]), d[2]);
        }
    }

    /** "SEEDS 1 to many (1 to 20)". */
    private static void aboveNumbers() {
        twins.bounds("many", ARGUMENT, Twins::running, 1, 20, (x, v) -> x.above(0, 1, 1, v));
        PumpCrossing x = game();
        c.due("seed 11 isn't asked", x.above(0, 1, 30, 10), 0);
        c.due("seed 11 is the last", x.above(0, 1, 30, 11), 1);
        c.due("seed 11 is one of 20", x.above(0, 1, 30, 20), 1);
        c.due("300 nights", x.above(0, 1, 300, 11), 1);
        c.due("300 nights", x.above(0, 1, 300, 10), 0);
        PumpCrossing y = priced(9, 0, 10, 16, 19);
        y.driver(8, 1, 1, 0);
        y.driver(5, 0, 3, 0);
        c.due("seed 1 is asked", y.above(0, 1, 30, 1), 1);
        PumpCrossing z = priced(0, 4, 12, 15, 21);
        z.driver(7, 1, 1, 1);
        z.driver(5, 1, 0, 2);
        c.due("seeds 0 and 2 aren't asked", z.above(0, 1, 30, 1), 0);
        c.due("seed 2 is asked", z.above(0, 1, 30, 2), 1);
    }

    private static PumpCrossing priced(int costOfA, int costOfB, int... levels) {
        PumpCrossing x = new PumpCrossing();
        x.station(costOfA, 50, 0);
        x.station(costOfB, 50, 0);
        for (int level : levels) {
            x.level(level);
        }
        return x;
    }

    /** "a pair with GAINS together above those of the first EVEN pair": not at them, and not of another EVEN pair. */
    private static void aboveTheFirst() {
        PumpCrossing x = priced(8, 6, 10, 19, 28);
        x.driver(4, 0, 2, 0);
        x.driver(8, 1, 3, 1);
        c.due("the first", x.even(0, 1, 0), 0);
        c.due("the second", x.even(0, 1, 1), 11);
        c.due("above the first (at it: 19, above the second: 2)", x.above(0, 1, 30, 20), 11);
        PumpCrossing y = priced(0, 7, 13, 19, 27);
        y.driver(3, 0, 1, 0);
        y.driver(2, 1, 3, 2);
        y.driver(8, 1, 2, 3);
        c.due("the first is uneven", y.even(0, 1, 0), 12);
        c.due("above it", y.above(0, 1, 30, 20), 4);
        PumpCrossing z = priced(7, 6, 13, 15, 24);
        z.driver(7, 0, 3, 2);
        z.driver(2, 1, 3, 2);
        z.driver(9, 0, 0, 1);
        c.due("the first is uneven", z.even(0, 1, 0), 21);
        c.due("above it", z.above(0, 1, 30, 20), 2);
        PumpCrossing own = alike(8);
        own.driver(1, 0, 0, 0);
        own.driver(1, 1, 0, 0);
        c.due("the first is the last pair of all", own.even(0, 1, 0), 77);
        c.due("none is above it", own.above(0, 1, 300, 20), 0);
        c.due("all alike: none is above", alike(8).above(0, 1, 300, 20), 0);
    }

    /** "NONE without one". */
    private static void aboveWithoutOne() {
        PumpCrossing x = new PumpCrossing();
        x.station(8, 50, 0);
        x.station(5, 50, 0);
        x.driver(19, 1, 1, 0);
        x.driver(9, 1, 0, 0);
        x.driver(1, 0, 0, 0);
        x.level(10);
        x.level(20);
        // a: 00 2, 01 40, 10 12, 11 12. b: 00 140, 01 135, 10 140, 11 420: round and round.
        c.due("no even pair", x.even(0, 1, -1), 0);
        c.due("above none", x.above(0, 1, 300, 20), -1);
    }

    /** "PUNISHED by d: a stands at d, b where it is: what b takes then by its table". */
    private static void punishedBy() {
        PumpCrossing x = game();
        c.due("by 0", x.punish(0, 1, 2, 113, 0), 1);
        c.due("by 1", x.punish(0, 1, 2, 113, 1), 0);
        c.due("seed 42, by 0", x.punish(0, 1, 300, 42, 0), 1);
        c.due("seed 42, by 1", x.punish(0, 1, 300, 42, 1), 0);
    }
}
