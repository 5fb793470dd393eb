import java.util.NoSuchElementException;

/** Promises 10 to 20: run, price, board, would, of, fills, round, leads, passed, upper, lower. */
public final class HoursTest {
    private static final Checks c = new Checks();

    public static void main(String[] args) {
        allSetAtOnce();
        seenLate();
        roseAndFellLate();
        alone();
        hoursAndDays();
        since();
        deeds();
        laws();
        lawTold();
        profits();
        runs();
        rounds();
        leads();
        followed();
        passed();
        passedKeeps();
        wrongCalls();
        c.end();
    }

    private static PumpCrossing crossing(int... prices) {
        PumpCrossing x = new PumpCrossing();
        for (int price : prices) {
            x.station(40, price, 0);
        }
        return x;
    }

    private static PumpCrossing ruled(int price, String rules) {
        PumpCrossing x = crossing(price);
        c.due("a rule at least: " + rules, Checks.rules(x, 0, rules) > 0, true);
        return x;
    }

    private static void allSetAtOnce() {
        PumpCrossing x = crossing(50, 70);
        Checks.rules(x, 0, "match;");
        Checks.rules(x, 1, "match;");
        c.due("would", x.would(0), 70);
        x.run(1);
        c.due("changed places", x.price(0), 70);
        c.due("changed places", x.price(1), 50);
    }

    private static void seenLate() {
        PumpCrossing x = crossing(80);
        x.station(40, 50, 0);
        x.late(0, 2);
        Checks.rules(x, 0, "match;");
        Checks.rules(x, 1, "up 1;");
        x.run(5);
        int[] seen = {50, 50, 50, 51, 52};
        for (int t = 0; t < 5; t++) {
            c.due("late 2, hour " + t, x.board(0, t), seen[t]);
            c.due("up 1, hour " + t, x.board(1, t), 51 + t);
        }
        x.late(0, 3);
        c.due("late 3 in hour 5", x.would(0), 52);
        x.late(0, 0);
        c.due("late 0 in hour 5", x.would(0), 55);
    }

    private static void roseAndFellLate() {
        PumpCrossing x = crossing(80, 50, 50);
        x.late(0, 1);
        Checks.rules(x, 0, "up 1 when rose=1;down 1 when fell=2;");
        Checks.rules(x, 1, "up 5 when hour=0;down 1 when hour=2;");
        Checks.rules(x, 2, "down 1 when hour=2;");
        // Hour 0 is seen in hour 2, hour 2 in hour 4.
        x.run(6);
        int[] seen = {80, 80, 81, 81, 80, 80};
        for (int t = 0; t < 6; t++) {
            c.due("rose and fell, hour " + t, x.board(0, t), seen[t]);
        }
    }

    private static void alone() {
        c.due("least is own", ruled(60, "below 7;").would(0), 53);
        c.due("match is own", ruled(60, "match;").would(0), 60);
        c.due("most is own", ruled(60, "to 1 when most=own and least=60 and rose+fell=0;").would(0), 1);
    }

    private static void hoursAndDays() {
        PumpCrossing x = ruled(10, "up 1 when day=1;");
        x.run(24);
        c.due("day 0", x.price(0), 10);
        x.run(24);
        c.due("day 1", x.price(0), 34);
        x.run(144);
        c.due("till day 7, which is 0", x.price(0), 34);
        x.run(24);
        c.due("day 8, which is 1", x.price(0), 58);
        PumpCrossing y = ruled(10, "up 1 when hour=23;");
        y.run(23);
        c.due("hour 22 was the last", y.price(0), 10);
        y.run(1);
        c.due("hour 23", y.price(0), 11);
        y.run(24);
        c.due("hour 47", y.price(0), 12);
    }

    private static void since() {
        PumpCrossing x = ruled(10, "up 1 when since>5;");
        c.due("never, hour 0", x.of(0, 2), 1);
        x.run(5);
        c.due("never, hour 5", x.of(0, 2), 6);
        x.run(1);
        c.due("in hour 5", x.price(0), 11);
        c.due("changed the hour ahead", x.of(0, 2), 1);
        x.run(6);
        c.due("in hour 11", x.price(0), 12);
        PumpCrossing y = ruled(10, "up 1 when since=99;");
        y.run(300);
        c.due("in hours 98, 197, 296", y.price(0), 13);
        PumpCrossing z = crossing(10);
        z.run(120);
        c.due("99 at most", z.of(0, 2), 99);
        PumpCrossing w = ruled(10, "to 10;");
        w.run(3);
        c.due("set to what it was is no change", w.of(0, 2), 4);
    }

    private static void deeds() {
        PumpCrossing x = crossing(60, 55, 70);
        Checks.rules(x, 0, "up 9;");
        c.due("up", x.would(0), 69);
        Checks.rules(x, 0, "down 9;");
        c.due("down", x.would(0), 51);
        Checks.rules(x, 0, "to 9;");
        c.due("to", x.would(0), 9);
        Checks.rules(x, 0, "below 9;");
        c.due("below", x.would(0), 46);
        Checks.rules(x, 0, "match;");
        c.due("match", x.would(0), 55);
        Checks.rules(x, 0, "keep;to 9;");
        c.due("keep, the first", x.would(0), 60);
        Checks.rules(x, 0, "to 8 when 1=2;to 9 when 1=1;to 10;");
        c.due("the first that is so", x.would(0), 9);
        Checks.rules(x, 0, "to 8 when 1=2;");
        c.due("none is so", x.would(0), 60);
        Checks.rules(x, 0, "up 99;");
        c.due("99 at most", x.would(0), 99);
        Checks.rules(x, 0, "down 99;");
        c.due("0 at least", x.would(0), 0);
    }

    private static void lawMakes(int cost, int price, String rules, String law, int want) {
        PumpCrossing x = ruled(price, rules);
        x.cost(0, cost);
        c.due("law counts", Checks.law(x, law) >= 0, true);
        c.due(rules + " by " + law, x.would(0), want);
    }

    private static void laws() {
        lawMakes(40, 70, "to 90;", "cap 2;", 72);
        lawMakes(40, 70, "to 10;", "cap 2;", 10);
        lawMakes(40, 70, "to 90;", "cap 9;cap 3;", 73);
        lawMakes(40, 70, "to 10;", "cost;", 40);
        lawMakes(60, 50, "keep;", "cost;", 50);
        lawMakes(60, 50, "down 1;", "cost;", 60);
        lawMakes(60, 50, "up 5;", "cap 2;cost;", 60);
        lawMakes(60, 50, "up 5;", "cap 0;cost;", 50);
        lawMakes(40, 70, "up 1;", "at 1;", 70);
        lawMakes(40, 70, "up 1;", "at 1;at 0;", 71);
        lawMakes(40, 70, "up 1;", "once 1;", 71);
        lawMakes(40, 70, "up 1;", "once 2;", 70);
        lawMakes(40, 70, "up 1;", "once 9;once 1;", 71);
        lawMakes(40, 70, "up 99;", "told;", 99);
        PumpCrossing at = ruled(10, "up 1;");
        Checks.law(at, "at 3;at 5;");
        at.run(24);
        c.due("at 3 and 5", at.price(0), 12);
        PumpCrossing once = ruled(10, "up 1;");
        Checks.law(once, "once 3;");
        once.run(9);
        c.due("in hours 2, 5, 8", once.price(0), 13);
        once.law(0);
        once.run(2);
        c.due("without a law", once.price(0), 15);
    }

    private static void lawTold() {
        PumpCrossing x = crossing(90, 50);
        x.driver(2, 0, 0, 5);
        c.due("knows none", x.fills(0), 0);
        Checks.law(x, "told;");
        c.due("all know all", x.fills(0), 1);
        x.run(1);
        c.due("sold", x.of(1, 1), 2);
        x.law(0);
        c.due("no more", x.fills(0), 0);
    }

    private static void profits() {
        PumpCrossing x = crossing(50, 30, 99);
        x.driver(10, 0, 0, 0);
        x.driver(5, 1, 1, 0);
        x.driver(7, 0, 2, 20);
        x.run(2);
        // The third kind stays at 0: 50 there is as dear as 30 and its detour.
        c.due("profit of 0: 2 (10 + 7) (50 - 40)", x.of(0, 0), 340);
        c.due("sold of 0", x.of(0, 1), 34);
        c.due("a loss", x.of(1, 0), -100);
        c.due("sold of 1", x.of(1, 1), 10);
        c.due("nobody", x.of(2, 0), 0);
        c.due("paid: 2 (17 50 + 5 30), no detours", x.count(7), 2000);
        PumpCrossing y = crossing(99);
        y.cost(0, 0);
        for (int k = 0; k < 6; k++) {
            y.driver(99, 0, 0, 0);
        }
        for (int k = 0; k < 10; k++) {
            y.run(300);
        }
        c.due("all hours", y.of(0, 0), 3000L * 6 * 99 * 99);
        c.due("all paid", y.count(7), 3000L * 6 * 99 * 99);
    }

    private static void runs() {
        PumpCrossing x = ruled(50, "up 1 when own=50;down 1;");
        c.due("none", x.run(0), 0);
        c.dueThrow("no such board", NoSuchElementException.class, () -> x.board(0, 0));
        c.dueThrow("301", IllegalArgumentException.class, () -> x.run(301));
        c.dueThrow("-1", IllegalArgumentException.class, () -> x.run(-1));
        c.due("300", x.run(300), 300);
        c.due("256 boards", x.count(3), 256);
        c.dueThrow("forgotten", NoSuchElementException.class, () -> x.board(0, 43));
        c.due("the oldest", x.board(0, 44), 51);
        c.due("the newest", x.board(0, 299), 50);
        c.dueThrow("to come", NoSuchElementException.class, () -> x.board(0, 300));
        c.dueThrow("-1", NoSuchElementException.class, () -> x.board(0, -1));
        for (int k = 0; k < 8; k++) {
            x.run(300);
        }
        c.due("2699", x.run(299), 299);
        c.due("as far as 3000 let", x.run(300), 1);
        c.due("no more", x.run(1), 0);
        c.due("hours", x.count(2), 3000);
        c.due("what would be", x.would(0), 51);
    }

    private static void rounds() {
        PumpCrossing x = ruled(50, "up 1 when own=50;down 1;");
        x.run(3);
        c.due("three boards", x.round(), -1);
        x.run(1);
        c.due("four boards", x.round(), 2);
        PumpCrossing y = ruled(0, "up 99 when own=0;down 1;");
        y.run(199);
        c.due("199 boards", y.round(), -1);
        y.run(1);
        c.due("the longest", y.round(), 100);
        PumpCrossing longer = ruled(0, "keep when own=0 and since<2;up 99 when own=0;down 1;");
        longer.run(250);
        c.due("101 is too long", longer.round(), -1);
        PumpCrossing z = crossing(0, 0);
        Checks.rules(z, 0, "up 2 when own=0;down 1;");
        Checks.rules(z, 1, "up 34 when own=0;down 1;");
        z.run(300);
        c.due("105 is too long", z.round(), -1);
        Checks.rules(z, 1, "keep;");
        z.run(4);
        c.due("not in both yet", z.round(), -1);
        z.run(1);
        c.due("three in both", z.round(), 3);
        PumpCrossing still = crossing(5);
        still.run(1);
        c.due("one board", still.round(), -1);
        still.run(1);
        c.due("two like ones", still.round(), 1);
    }

    private static long leadsBy(String zero, String one, int hours, int station) {
        PumpCrossing x = crossing(50, 60);
        Checks.rules(x, 0, zero);
        Checks.rules(x, 1, one);
        x.run(hours);
        return x.leads(station, false);
    }

    private static void leads() {
        c.due("two ahead aren't there", leadsBy("up 1 when hour=1;", "keep;", 9, 0), 0);
        c.due("two ahead are there", leadsBy("up 1 when hour=2;", "keep;", 9, 0), 1);
        c.due("none for the other one", leadsBy("up 1 when hour=2;", "keep;", 9, 1), 0);
        c.due("in the last board", leadsBy("up 1 when hour=8;", "keep;", 9, 0), 1);
        c.due("both at once", leadsBy("up 1 when hour=2;", "up 2 when hour=2;", 9, 0), 0);
        c.due("the other one goes down", leadsBy("up 1 when hour=2;", "down 2 when hour=2;", 9, 0), 1);
        c.due("twice on end", leadsBy("up 1 when hour=4 or hour=5;", "keep;", 9, 0), 1);
        c.due("behind the other one", leadsBy("up 1 when hour=5;", "up 1 when hour=4;", 9, 0), 0);
        c.due("ahead of the other one", leadsBy("up 1 when hour=5;", "up 1 when hour=4;", 9, 1), 1);
        c.due("two behind the other one", leadsBy("up 1 when hour=6;", "up 1 when hour=4;", 9, 0), 1);
        c.due("each day", leadsBy("up 1 when hour=5;", "keep;", 100, 0), 4);
        // Boards 44 to 299 are kept: hours 53, 77, .. 293.
        c.due("in boards alone", leadsBy("up 1 when hour=5;", "keep;", 300, 0), 11);
    }

    private static long followedBy(String one, String two, int hours) {
        PumpCrossing x = crossing(50, 60, 70);
        Checks.rules(x, 0, "up 1 when hour=5;");
        Checks.rules(x, 1, one);
        Checks.rules(x, 2, two);
        x.run(hours);
        c.due("a lead", x.leads(0, false), 1);
        return x.leads(0, true);
    }

    private static void followed() {
        c.due("six behind", followedBy("up 1 when hour=11;", "up 1 when hour=6;", 12), 1);
        c.due("not yet there", followedBy("up 1 when hour=6;", "up 1 when hour=6;", 11), 0);
        c.due("seven behind", followedBy("up 1 when hour=12;", "up 1 when hour=6;", 20), 0);
        c.due("one alone", followedBy("up 1 when hour=7;", "keep;", 20), 0);
        c.due("down isn't up", followedBy("up 1 when hour=7;", "down 1 when hour=8;", 20), 0);
        PumpCrossing x = ruled(50, "up 1 when hour=5;");
        x.run(11);
        c.due("alone, not yet there", x.leads(0, true), 0);
        x.run(1);
        c.due("alone", x.leads(0, true), 1);
    }

    private static void fraction(PumpCrossing x, long upper, long lower) {
        c.due("upper", x.upper(), upper);
        c.due("lower", x.lower(), lower);
    }

    private static void passed() {
        PumpCrossing x = ruled(60, "to 70 when cost>44;to 66 when cost>41;to 60;");
        x.cost(0, 41);
        x.run(2);
        c.due("no board ahead of hour 0", x.passed(0, 1, true), false);
        fraction(x, 0, 0);
        x.cost(0, 46);
        c.due("no board yet", x.passed(0, 1, true), false);
        x.run(3);
        c.due("in one hour", x.passed(0, 1, true), true);
        fraction(x, 2, 1);
        c.due("in three hours", x.passed(0, 3, true), true);
        c.due("in four hours", x.passed(0, 4, true), false);
        c.due("none downwards", x.passed(0, 1, false), false);
        x.cost(0, 43);
        x.run(3);
        c.due("downwards", x.passed(0, 1, false), true);
        fraction(x, 4, 3);
        x.cost(0, 44);
        x.run(3);
        c.due("both upwards", x.passed(0, 2, true), true);
        fraction(x, 5, 3);
        c.due("the second upwards in one more", x.passed(0, 3, true), true);
        c.due("the first alone", x.passed(0, 5, true), true);
        // From 60 to 66 by then: in five hours the cut was passed on, too.
        fraction(x, 6, 5);
        c.due("the other way", x.passed(0, 6, true), true);
        PumpCrossing y = ruled(60, "down 1;");
        y.run(1);
        y.cost(0, 50);
        y.run(2);
        c.due("up, though the price went down", y.passed(0, 2, true), true);
        fraction(y, 0, 1);
    }

    private static void passedKeeps() {
        PumpCrossing x = crossing(60, 60);
        x.run(1);
        x.cost(0, 41);
        x.run(1);
        c.due("there", x.passed(0, 1, true), true);
        for (int k = 1; k <= 9; k++) {
            x.cost(1, k);
        }
        c.due("still there", x.passed(0, 1, true), true);
        x.cost(1, 10);
        c.due("the latest ten of all", x.passed(0, 1, true), false);
        fraction(x, 0, 1);
        PumpCrossing y = crossing(60);
        y.run(1);
        y.cost(0, 41);
        y.run(255);
        c.due("board 0 is there", y.passed(0, 24, true), true);
        y.run(1);
        c.due("board 0 is forgotten", y.passed(0, 24, true), false);
    }

    private static void wrongCalls() {
        PumpCrossing x = crossing(60, 60);
        int[] none = {-1, 2, Integer.MAX_VALUE, Integer.MIN_VALUE};
        for (int s : none) {
            c.dueThrow("price", NoSuchElementException.class, () -> x.price(s));
            c.dueThrow("board", NoSuchElementException.class, () -> x.board(s, 0));
            c.dueThrow("would", NoSuchElementException.class, () -> x.would(s));
            c.dueThrow("of", NoSuchElementException.class, () -> x.of(s, 3));
            c.dueThrow("fills", NoSuchElementException.class, () -> x.fills(s));
            c.dueThrow("leads", NoSuchElementException.class, () -> x.leads(s, true));
            c.dueThrow("passed", NoSuchElementException.class, () -> x.passed(s, 0, true));
        }
        c.dueThrow("of what", IllegalArgumentException.class, () -> x.of(0, 3));
        c.dueThrow("of what", IllegalArgumentException.class, () -> x.of(0, -1));
        c.dueThrow("in no hours", IllegalArgumentException.class, () -> x.passed(0, 0, true));
        c.dueThrow("in 25 hours", IllegalArgumentException.class, () -> x.passed(0, 25, true));
        c.due("in 24 hours", x.passed(0, 24, true), false);
    }
}
