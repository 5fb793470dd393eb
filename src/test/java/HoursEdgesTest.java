import java.util.NoSuchElementException;

/** Promises 10 to 20 (run to lower): a test for each sentence that names an edge. */
public final class HoursEdgesTest {
    private static final Class<?> ARGUMENT = IllegalArgumentException.class;
    private static final Class<?> ELEMENT = NoSuchElementException.class;

    private static final Checks c = new Checks();
    private static final Twins twins = new Twins(c);

    public static void main(String[] args) {
        runsNumber();
        asFarAs3000();
        aheadOfHourNought();
        roseAndFellFirst();
        likeOnesAreNeither();
        withoutOthers();
        hourComesRound();
        dayComesRound();
        sinceNever();
        sinceChanged();
        noRuleIsSo();
        noughtTo99();
        cap();
        cost();
        costBehindCap();
        costAheadOfBounds();
        at();
        once();
        onceOf99();
        stayingIsNoChange();
        told();
        losses();
        stationsAsked();
        kindsAsked();
        boardsThere();
        boardsOf256();
        hoursPast256();
        whatIsAsked();
        roundsOfFewBoards();
        roundsOfHundred();
        roundsInEachBoard();
        leadsWithTwoAhead();
        leadsAlone();
        leadsInBoards();
        followedWithSixBehind();
        followedByEach();
        passedHours();
        passedBoardsThere();
        passedBoardsKept();
        passedTheOtherWay();
        passedByLeastNumbers();
        passedFalse();
        latestFraction();
        c.end();
    }

    private static PumpCrossing ruled(int cost, int price, String rules) {
        PumpCrossing x = new PumpCrossing();
        x.station(cost, price, 0);
        c.due("rules: " + rules, Checks.rules(x, 0, rules) > 0, true);
        return x;
    }

    private static PumpCrossing two(String zero, String one) {
        PumpCrossing x = ruled(40, 50, zero);
        x.station(40, 50, 0);
        c.due("rules: " + one, Checks.rules(x, 1, one) > 0, true);
        return x;
    }

    private static void run(PumpCrossing x, int hours) {
        for (int left = hours; left > 0; left -= 300) {
            x.run(Math.min(left, 300));
        }
    }

    // ---- Promise 10

    /** "So many HOURS (0 to 300) are run"; "IllegalArgumentException: the number". */
    private static void runsNumber() {
        twins.bounds("run", ARGUMENT, Twins::running, 0, 300, (x, v) -> x.run(v));
        twins.bounds("run of all", ARGUMENT, Twins::full, 0, 300, (x, v) -> x.run(v));
        twins.unmoved("run 0", 0, Twins::running, x -> x.run(0));
        PumpCrossing x = new PumpCrossing();
        c.due("1", x.run(1), 1);
        c.due("300", x.run(300), 300);
        c.due("hours", x.count(2), 301);
    }

    /** "as far as 3000 let: how many". */
    private static void asFarAs3000() {
        PumpCrossing x = ruled(40, 60, "to 1 when own=60;to 60;");
        x.driver(1, 0, 0, 0);
        run(x, 2700);
        c.due("to 2999", x.run(299), 299);
        c.due("one of two", x.run(2), 1);
        c.due("hours", x.count(2), 3000);
        c.due("sold in each", x.of(0, 1), 3000);
        c.due("none", x.run(1), 0);
        c.due("sold in none", x.of(0, 1), 3000);
        c.due("what would be in hour 3000", x.would(0), 1);
        PumpCrossing y = ruled(40, 60, "keep;");
        run(y, 2700);
        c.due("all 300", y.run(300), 300);
        twins.unmoved("none of 300", 0, Twins::full, z -> z.run(300));
    }

    // ---- an hour

    /** "the PRICE as it was behind HOUR t - 1 - LATE (ahead of HOUR 0: as it was told)". */
    private static void aheadOfHourNought() {
        for (int late = 0; late <= 3; late++) {
            PumpCrossing x = two("match;", "up 1;");
            x.late(0, late);
            x.run(8);
            for (int t = 0; t < 8; t++) {
                c.due("late " + late + ", hour " + t, x.board(0, t), 50 + Math.max(0, t - late));
            }
        }
    }

    /** "above, below what was seen of them an HOUR ahead (LATE one more)": ahead of HOUR 0 nothing rose or fell. */
    private static void roseAndFellFirst() {
        for (int late = 0; late <= 3; late++) {
            PumpCrossing x = two("up 1 when rose=1;", "up 1 when hour=0;");
            PumpCrossing y = two("up 1 when fell=1;", "down 1 when hour=0;");
            x.late(0, late);
            y.late(0, late);
            x.run(8);
            y.run(8);
            for (int t = 0; t < 8; t++) {
                c.due("rose, late " + late + ", hour " + t, x.board(0, t), t <= late ? 50 : 51);
                c.due("fell, late " + late + ", hour " + t, y.board(0, t), t <= late ? 50 : 51);
            }
        }
    }

    /** "how many of those seen are above, below": like ones are neither, and own isn't seen. */
    private static void likeOnesAreNeither() {
        PumpCrossing x = new PumpCrossing();
        for (int s = 0; s < 4; s++) {
            x.station(40, 50, 0);
        }
        Checks.rules(x, 0, "up 1 when hour=0;");
        x.run(1);
        Checks.rules(x, 0, "to 9 when rose=0 and fell=0;");
        Checks.rules(x, 1, "to 9 when rose=1 and fell=0;");
        c.due("own isn't seen", x.would(0), 9);
        c.due("one rose", x.would(1), 9);
        Checks.rules(x, 0, "keep;");
        Checks.rules(x, 1, "down 1;");
        Checks.rules(x, 2, "down 1;");
        Checks.rules(x, 3, "down 1;");
        x.run(1);
        Checks.rules(x, 0, "to 9 when fell=3 and rose=0;");
        Checks.rules(x, 1, "to 9 when fell=2 and rose=0;");
        c.due("all others fell", x.would(0), 9);
        c.due("two others fell", x.would(1), 9);
    }

    /** "least, most of those seen (own without others)". */
    private static void withoutOthers() {
        c.due("least", ruled(40, 60, "to 9 when least=60;").would(0), 9);
        c.due("most", ruled(40, 60, "to 9 when most=60;").would(0), 9);
        c.due("none rose or fell", ruled(40, 60, "to 9 when rose=0 and fell=0;").would(0), 9);
        c.due("below", ruled(40, 60, "below 1;").would(0), 59);
        c.due("match", ruled(40, 60, "match;").would(0), 60);
        PumpCrossing x = two("to 9 when least=70 and most=70;", "keep;");
        c.due("with another one", x.would(0), 50);
        PumpCrossing dear = ruled(40, 1, "match;");
        dear.station(40, 99, 0);
        c.due("another one at its most", dear.would(0), 99);
        Checks.rules(dear, 0, "to 9 when most=99;");
        c.due("another one at its most", dear.would(0), 9);
        Checks.rules(dear, 1, "to 9 when least=1 and most=1;");
        c.due("another one, too", dear.would(1), 9);
        PumpCrossing cheap = ruled(40, 50, "match;");
        cheap.station(40, 0, 0);
        c.due("another one at its least", cheap.would(0), 0);
        Checks.rules(cheap, 0, "to 9 when most=0;");
        c.due("another one at its least", cheap.would(0), 9);
    }

    /** "hour t mod 24". */
    private static void hourComesRound() {
        PumpCrossing x = ruled(40, 60, "to 23 when hour=23;to 0 when hour=0;to 50 when hour>23;to 1;");
        x.run(49);
        int[][] due = {{0, 0}, {1, 1}, {22, 1}, {23, 23}, {24, 0}, {25, 1}, {47, 23}, {48, 0}};
        for (int[] d : due) {
            c.due("hour of " + d[0], x.board(0, d[0]), d[1]);
        }
    }

    /** "day t by 24 mod 7". */
    private static void dayComesRound() {
        PumpCrossing x = ruled(40, 60, "to 6 when day=6;to 1 when day=1;to 0 when day=0;to 50 when day>6;to 3;");
        x.run(200);
        int[][] due = {{0, 0}, {23, 0}, {24, 1}, {47, 1}, {48, 3}, {143, 3}, {144, 6}, {167, 6}, {168, 0}, {191, 0},
            {192, 1}};
        for (int[] d : due) {
            c.due("day of " + d[0], x.board(0, d[0]), d[1]);
        }
    }

    /** "since ... (... never: t and 1; 99 at most)". */
    private static void sinceNever() {
        PumpCrossing x = new PumpCrossing();
        x.station(40, 60, 0);
        int[][] due = {{0, 1}, {1, 2}, {97, 98}, {98, 99}, {99, 99}, {100, 99}, {350, 99}, {3000, 99}};
        for (int[] d : due) {
            run(x, d[0] - (int) x.count(2));
            c.due("never, hour " + d[0], x.of(0, 2), d[1]);
        }
        PumpCrossing y = ruled(40, 60, "to 9 when since>99;");
        y.run(300);
        c.due("never above 99", y.price(0), 60);
    }

    /** "behind HOUR t' in which it was, in HOUR t: t - t'; ... 99 at most". */
    private static void sinceChanged() {
        PumpCrossing x = ruled(40, 60, "to 9 when hour=3;");
        x.run(3);
        c.due("not yet", x.of(0, 2), 4);
        int[][] due = {{4, 1}, {5, 2}, {101, 98}, {102, 99}, {103, 99}, {400, 99}};
        for (int[] d : due) {
            run(x, d[0] - (int) x.count(2));
            c.due("changed in hour 3, hour " + d[0], x.of(0, 2), d[1]);
        }
    }

    /** "The first of its RULES whose B is so (or that has none) is done; none: keep". */
    private static void noRuleIsSo() {
        c.due("none is so", ruled(40, 60, "to 1 when 1=2;to 2 when 2<1;").would(0), 60);
        c.due("the last is so", ruled(40, 60, "to 1 when 1=2;to 2 when 1<2;").would(0), 2);
        c.due("the last has none", ruled(40, 60, "to 1 when 1=2;to 2;").would(0), 2);
        c.due("the first has none", ruled(40, 60, "to 1;to 2 when 1=1;").would(0), 1);
    }

    // ---- by the law

    /** "then 0 to 99". */
    private static void noughtTo99() {
        c.due("up to 99", ruled(40, 90, "up 9;").would(0), 99);
        c.due("up to 100", ruled(40, 90, "up 10;").would(0), 99);
        c.due("down to 0", ruled(40, 9, "down 9;").would(0), 0);
        c.due("down to -1", ruled(40, 9, "down 10;").would(0), 0);
        c.due("below 0", ruled(40, 9, "below 9;").would(0), 0);
        c.due("below -1", ruled(40, 9, "below 10;").would(0), 0);
        PumpCrossing top = ruled(40, 99, "up 99;");
        top.run(5);
        c.due("99 stays", top.price(0), 99);
        c.due("and that is no change", top.of(0, 2), 6);
        PumpCrossing bottom = ruled(40, 0, "down 99;");
        bottom.run(5);
        c.due("0 stays", bottom.price(0), 0);
        c.due("and that is no change", bottom.of(0, 2), 6);
    }

    private static void byLaw(int cost, int price, String rules, String law, int want) {
        PumpCrossing x = ruled(cost, price, rules);
        c.due("law: " + law, Checks.law(x, law) > 0, true);
        c.due(price + ", cost " + cost + ": " + rules + " by " + law, x.would(0), want);
        x.run(1);
        c.due("as it would", x.price(0), want);
    }

    /** "cap: no more than own and N". */
    private static void cap() {
        byLaw(40, 60, "up 4;", "cap 5;", 64);
        byLaw(40, 60, "up 5;", "cap 5;", 65);
        byLaw(40, 60, "up 6;", "cap 5;", 65);
        byLaw(40, 60, "to 66;", "cap 5;", 65);
        byLaw(40, 60, "up 1;", "cap 0;", 60);
        byLaw(40, 60, "down 9;", "cap 0;", 51);
        byLaw(40, 0, "up 99;", "cap 99;", 99);
        byLaw(40, 98, "up 9;", "cap 1;", 99);
        byLaw(40, 98, "up 9;", "cap 2;", 99);
    }

    /** "then cost: no less than COST, if it is another PRICE than own". */
    private static void cost() {
        byLaw(40, 60, "to 41;", "cost;", 41);
        byLaw(40, 60, "to 40;", "cost;", 40);
        byLaw(40, 60, "to 39;", "cost;", 40);
        byLaw(40, 30, "keep;", "cost;", 30);
        byLaw(40, 30, "to 30;", "cost;", 30);
        byLaw(40, 30, "to 29;", "cost;", 40);
        byLaw(40, 30, "to 31;", "cost;", 40);
        byLaw(99, 60, "down 1;", "cost;", 99);
        byLaw(0, 60, "to 0;", "cost;", 0);
    }

    /** The cap comes ahead of the cost, which may lead beyond it. */
    private static void costBehindCap() {
        byLaw(40, 30, "up 9;", "cap 2;cost;", 40);
        byLaw(40, 30, "up 9;", "cap 0;cost;", 30);
        byLaw(40, 30, "up 9;", "cost;cap 2;", 40);
    }

    /** "then cost ...; then 0 to 99": what would be below 0 is another PRICE than 0 till then. */
    private static void costAheadOfBounds() {
        byLaw(40, 0, "down 1;", "cost;", 40);
        byLaw(40, 0, "down 0;", "cost;", 0);
        byLaw(40, 99, "up 1;", "cost;", 99);
    }

    /** "it is set only if by at (if any is told) hour is one of these". */
    private static void at() {
        PumpCrossing x = ruled(40, 10, "up 1;");
        Checks.law(x, "at 0;at 23;");
        x.run(50);
        int[][] due = {{0, 11}, {1, 11}, {22, 11}, {23, 12}, {24, 13}, {25, 13}, {46, 13}, {47, 14}, {48, 15}, {49, 15}};
        for (int[] d : due) {
            c.due("at 0 and 23, hour " + d[0], x.board(0, d[0]), d[1]);
        }
        byLaw(40, 60, "up 1;", "at 1;", 60);
        byLaw(40, 60, "down 1;", "at 1;", 60);
        byLaw(40, 60, "up 1;", "at 0;", 61);
    }

    /** "and by once since is N or more; else it stays". */
    private static void once() {
        byLaw(40, 60, "up 1;", "once 1;", 61);
        byLaw(40, 60, "up 1;", "once 2;", 60);
        byLaw(40, 60, "up 1;", "once 1;at 1;", 60);
        byLaw(40, 60, "up 1;", "once 2;at 0;", 60);
        PumpCrossing x = ruled(40, 10, "up 1;");
        Checks.law(x, "once 3;");
        x.run(9);
        for (int t = 0; t < 9; t++) {
            c.due("once 3, hour " + t, x.board(0, t), 10 + (t + 1) / 3);
        }
    }

    /** "once 1 to 99" and "99 at most": by once 99 it is set when since has come to its most. */
    private static void onceOf99() {
        PumpCrossing x = ruled(40, 10, "up 1;");
        Checks.law(x, "once 99;");
        x.run(300);
        int[][] due = {{97, 10}, {98, 11}, {196, 11}, {197, 12}, {295, 12}, {296, 13}};
        for (int[] d : due) {
            c.due("once 99, hour " + d[0], x.board(0, d[0]), d[1]);
        }
    }

    /** "else it stays", and what stays isn't changed. */
    private static void stayingIsNoChange() {
        PumpCrossing x = ruled(40, 60, "up 1;");
        Checks.law(x, "at 9;");
        x.run(9);
        c.due("since never", x.of(0, 2), 10);
        x.run(1);
        c.due("since hour 9", x.of(0, 2), 1);
        c.due("once", x.price(0), 61);
    }

    /** "told: all DRIVERS KNOW all". */
    private static void told() {
        PumpCrossing x = new PumpCrossing();
        x.station(40, 60, 0);
        x.station(40, 55, 0);
        x.station(40, 54, 0);
        x.station(40, 53, 0);
        x.driver(1, 0, 0, 7);
        x.driver(1, 0, 0, 6);
        x.driver(1, 0, 6, 0);
        Checks.law(x, "told;");
        c.due("as dear with its detour", x.fills(0), 0);
        c.due("the last is known", x.fills(1), 3);
        c.due("those known before, too", x.fills(2), 3);
        x.law(0);
        c.due("told no more", x.fills(1), 0);
        c.due("told no more", x.fills(2), 2);
        PumpCrossing y = new PumpCrossing();
        y.station(40, 50, 0);
        y.station(40, 60, 0);
        y.driver(1, 1, 0, 0);
        y.driver(1, 0, 0, 0);
        c.due("the first isn't known", y.fills(0), 1);
        Checks.law(y, "told;");
        c.due("the first is known", y.fills(0), 0);
        c.due("none but those that are there", y.fills(1), 0);
        y.run(1);
        c.due("both fill there", y.of(0, 1), 2);
    }

    /** "PROFIT ... grows by MANY times (PRICE less COST)", which may be below 0; "PAID (of all) by MANY times PRICE". */
    private static void losses() {
        PumpCrossing x = ruled(99, 0, "keep;");
        for (int k = 0; k < 6; k++) {
            x.driver(99, 0, 0, 20);
        }
        run(x, 3000);
        c.due("the greatest loss", x.of(0, 0), -3000L * 6 * 99 * 99);
        c.due("sold", x.of(0, 1), 3000L * 6 * 99);
        c.due("paid", x.count(7), 0);
        PumpCrossing y = ruled(60, 60, "keep;");
        y.driver(7, 0, 0, 0);
        y.run(1);
        c.due("neither", y.of(0, 0), 0);
        c.due("paid", y.count(7), 420);
    }

    // ---- Promises 11 to 15

    /** "no such STATION (as everywhere)": price, board, would, of, leads, passed. */
    private static void stationsAsked() {
        stationsOf("price", (x, s) -> x.price(s));
        stationsOf("board", (x, s) -> x.board(s, 59));
        stationsOf("would", (x, s) -> x.would(s));
        stationsOf("of", (x, s) -> x.of(s, 0));
        stationsOf("leads", (x, s) -> x.leads(s, false));
        stationsOf("followed", (x, s) -> x.leads(s, true));
        stationsOf("passed", (x, s) -> x.passed(s, 1, true) ? 1 : 0);
    }

    private static void stationsOf(String what, Twins.Call call) {
        twins.bounds(what + " of", ELEMENT, Twins::running, 0, 1, call);
        twins.refused(what + " of none", ELEMENT, PumpCrossing::new, x -> call.of(x, 0));
    }

    /** "NoSuchElementException: no such kind". */
    private static void kindsAsked() {
        twins.bounds("fills", ELEMENT, Twins::running, 0, 1, (x, v) -> x.fills(v));
        twins.bounds("fills of six", ELEMENT, Twins::full, 0, 5, (x, v) -> x.fills(v));
        twins.refused("fills of none", ELEMENT, PumpCrossing::new, x -> x.fills(0));
    }

    /** "NoSuchElementException: also no such BOARD". */
    private static void boardsThere() {
        twins.bounds("board", ELEMENT, Twins::running, 0, 59, (x, v) -> x.board(1, v));
        twins.bounds("board of all", ELEMENT, Twins::full, 2744, 2999, (x, v) -> x.board(1, v));
        twins.refused("board of no hours", ELEMENT, Twins::begun, x -> x.board(0, 0));
    }

    /** "BOARDS: PRICES behind HOURS, the latest 256 of them". */
    private static void boardsOf256() {
        PumpCrossing x = ruled(40, 0, "up 1 when own<99;to 0;");
        x.run(255);
        c.due("255", x.count(3), 255);
        x.run(1);
        c.due("256", x.count(3), 256);
        c.due("board 0 is kept", x.board(0, 0), 1);
        x.run(1);
        c.due("256 of 257", x.count(3), 256);
        c.dueThrow("board 0 is cut off", ELEMENT, () -> x.board(0, 0));
        for (int t = 1; t < 257; t++) {
            c.due("board " + t, x.board(0, t), (t + 1) % 100);
        }
    }

    /** "the latest 256 of them": BOARDS are cut off, HOURS go on counting, in of, would and changes of COST, too. */
    private static void hoursPast256() {
        PumpCrossing x = ruled(40, 60, "to 70 when hour=12 and day=5;up 1 when hour=11;");
        x.run(300);
        // Set to 70 in hour 132 (day 5), then up in hours 155, 179, .. 299; hour 300 is hour 12 of day 12, which is 5.
        c.due("behind hour 299", x.price(0), 77);
        c.due("changed in hour 299", x.of(0, 2), 1);
        c.due("in hour 300", x.would(0), 70);
        x.cost(0, 33);
        x.run(1);
        c.due("passed from hour 299 to hour 300", x.passed(0, 1, false), true);
        fraction("7 by 7", x, 1, 1);
        c.due("board 300", x.board(0, 300), 70);
    }

    /** "what 0 ..., 1 ..., 2 ... IllegalArgumentException: another what", told behind the STATION. */
    private static void whatIsAsked() {
        twins.bounds("of what", ARGUMENT, Twins::running, 0, 2, (x, v) -> x.of(1, v));
        twins.refused("no station and another what", ELEMENT, Twins::running, x -> x.of(2, 3));
        twins.refused("no station and another what", ELEMENT, Twins::running, x -> x.of(-1, -1));
    }

    // ---- Promise 16

    /** "so that there are 2p BOARDS"; "NONE". */
    private static void roundsOfFewBoards() {
        c.due("no stations, no boards", new PumpCrossing().round(), -1);
        PumpCrossing still = ruled(40, 60, "keep;");
        int[] stillDue = {-1, -1, 1, 1};
        for (int due : stillDue) {
            c.due("still, boards " + still.count(3), still.round(), due);
            still.run(1);
        }
        PumpCrossing three = ruled(40, 2, "down 1 when own>0;to 2;");
        int[] threeDue = {-1, -1, -1, -1, -1, -1, 3, 3, 3};
        for (int due : threeDue) {
            c.due("three, boards " + three.count(3), three.round(), due);
            three.run(1);
        }
    }

    /** "the least p (1 to 100)". */
    private static void roundsOfHundred() {
        PumpCrossing hundred = ruled(40, 0, "up 1 when own<99;to 0;");
        hundred.run(199);
        c.due("199 boards", hundred.round(), -1);
        hundred.run(1);
        c.due("200 boards", hundred.round(), 100);
        run(hundred, 2800);
        c.due("3000 hours", hundred.round(), 100);
        PumpCrossing more = ruled(40, 0, "keep when own=0 and since=1;up 1 when own<99;to 0;");
        run(more, 606);
        c.due("101", more.round(), -1);
        PumpCrossing ninetyNine = ruled(40, 0, "up 1 when own<98;to 0;");
        ninetyNine.run(300);
        c.due("99 and not 198", ninetyNine.round(), 99);
    }

    /** "each of the latest p is as that p ahead": the first and the last of them, and each STATION. */
    private static void roundsInEachBoard() {
        c.due("the first of them", fourBoards("to 1 when hour=0;to 3 when hour=2;to 2;").round(), -1);
        c.due("the last of them", fourBoards("to 3 when hour=0 or hour=2;to 1 when hour=1;to 2;").round(), -1);
        c.due("both", fourBoards("to 3 when hour=0 or hour=2;to 1;").round(), 2);
        PumpCrossing x = two("to 1;", "up 1 when hour=3;");
        x.run(4);
        c.due("the last station", x.round(), -1);
        x.run(1);
        c.due("the last station, too", x.round(), 1);
        PumpCrossing four = new PumpCrossing();
        for (int s = 0; s < 4; s++) {
            four.station(40, 50 + s, 0);
        }
        Checks.rules(four, 0, "up 1 when own<51;down 1;");
        Checks.rules(four, 3, "up 1 when own<99;to 0;");
        run(four, 150);
        c.due("the last of four goes up", four.round(), -1);
        Checks.rules(four, 3, "keep;");
        run(four, 2);
        c.due("it stands in three boards", four.round(), -1);
        run(four, 1);
        c.due("it stands in four boards", four.round(), 2);
        run(four, 512 - 153);
        c.due("512 hours", four.round(), 2);
    }

    private static PumpCrossing fourBoards(String rules) {
        PumpCrossing x = ruled(40, 60, rules);
        x.run(4);
        return x;
    }

    // ---- Promise 17

    private static int leads(PumpCrossing x, int hours, boolean followed) {
        run(x, hours);
        return x.leads(0, followed);
    }

    /** "HOURS in BOARDS (with the two ahead there)". */
    private static void leadsWithTwoAhead() {
        c.due("no boards", two("up 1;", "keep;").leads(0, false), 0);
        c.due("hour 0", leads(two("up 1 when hour=0;", "keep;"), 9, false), 0);
        c.due("hour 1", leads(two("up 1 when hour=1;", "keep;"), 9, false), 0);
        c.due("hour 2", leads(two("up 1 when hour=2;", "keep;"), 9, false), 1);
        c.due("hour 2 is the last", leads(two("up 1 when hour=2;", "keep;"), 3, false), 1);
        c.due("hour 2 is to come", leads(two("up 1 when hour=2;", "keep;"), 2, false), 0);
    }

    /** "in which it went up, no other one did, and none did in the one ahead". */
    private static void leadsAlone() {
        c.due("like ones", leads(two("keep;", "keep;"), 9, false), 0);
        c.due("down", leads(two("down 1 when hour=4;", "keep;"), 9, false), 0);
        c.due("another one, too", leads(two("up 1 when hour=4;", "up 1 when hour=4;"), 9, false), 0);
        c.due("another one goes down", leads(two("up 1 when hour=4;", "down 1 when hour=4;"), 9, false), 1);
        c.due("another one ahead", leads(two("up 1 when hour=4;", "up 1 when hour=3;"), 9, false), 0);
        c.due("it itself ahead", leads(two("up 1 when hour=4 or hour=3;", "keep;"), 9, false), 1);
        c.due("another one two ahead", leads(two("up 1 when hour=4;", "up 1 when hour=2;"), 9, false), 1);
        c.due("it itself two ahead", leads(two("up 1 when hour=4 or hour=2;", "keep;"), 9, false), 2);
        c.due("another one behind", leads(two("up 1 when hour=4;", "up 1 when hour=5;"), 9, false), 1);
    }

    /** "in BOARDS", of which the latest 256 are there. */
    private static void leadsInBoards() {
        String once = "up 1 when hour=10 and own=50;";
        c.due("boards 8 to 263", leads(two(once, "keep;"), 264, false), 1);
        c.due("boards 9 to 264", leads(two(once, "keep;"), 265, false), 0);
        c.due("boards 8 to 263", leads(two(once, "up 1 when hour=16 and own=50;"), 264, true), 1);
        c.due("boards 9 to 264", leads(two(once, "up 1 when hour=16 and own=50;"), 265, true), 0);
        c.due("none behind the last board", leads(two("down 1;", "keep;"), 300, false), 0);
        PumpCrossing four = two("up 1 when hour=15 and day=3;", "keep;");
        four.station(40, 99, 0);
        four.station(40, 99, 0);
        Checks.rules(four, 3, "down 1 when hour>15;");
        c.due("four stations, hours 87 and 255 of 0 to 255", leads(four, 256, false), 2);
    }

    /** "(with the 6 behind there) behind which in 6 HOURS". */
    private static void followedWithSixBehind() {
        c.due("hour 11 is to come", leads(two("up 1 when hour=5;", "up 1 when hour=6;"), 11, true), 0);
        c.due("hour 11 is there", leads(two("up 1 when hour=5;", "up 1 when hour=6;"), 12, true), 1);
        c.due("in the sixth", leads(two("up 1 when hour=5;", "up 1 when hour=11;"), 12, true), 1);
        c.due("in the seventh", leads(two("up 1 when hour=5;", "up 1 when hour=12;"), 20, true), 0);
        c.due("in the two ahead", leads(two("up 1 when hour=5;", "up 1 when hour=3;"), 20, true), 0);
        c.due("it itself alone", leads(two("up 1 when hour=5 or hour=7;", "keep;"), 20, true), 0);
    }

    /** "each other STATION went up at least once". */
    private static void followedByEach() {
        String[][] others = {{"up 1 when hour=6;", "up 1 when hour=11;", "1"}, {"up 1 when hour=6;", "keep;", "0"},
            {"keep;", "up 1 when hour=6;", "0"}, {"up 1 when hour=6 or hour=8;", "up 1 when hour=6;", "1"},
            {"up 1 when hour=6;", "up 1 when hour=12;", "0"}, {"up 1 when hour=6;", "down 1 when hour=7;", "0"}};
        for (String[] o : others) {
            PumpCrossing x = two("up 1 when hour=5;", o[0]);
            x.station(40, 50, 0);
            Checks.rules(x, 2, o[1]);
            c.due(o[0] + " " + o[1], leads(x, 20, true), Integer.parseInt(o[2]));
        }
        int[] hours = {6, 7, 11, 12};
        for (int hour : hours) {
            PumpCrossing x = two("up 1 when hour=6;", "up 1 when hour=5;");
            Checks.rules(x, 0, "up 1 when hour=" + hour + ";");
            x.run(20);
            c.due("station 1 leads", x.leads(1, false), 1);
            c.due("station 0 follows in hour " + hour, x.leads(1, true), hour < 12 ? 1 : 0);
        }
        PumpCrossing alone = ruled(40, 50, "up 1 when hour=5;");
        c.due("no other one", leads(alone, 11, true), 0);
        c.due("no other one", leads(alone, 1, true), 1);
    }

    // ---- Promises 18 to 20

    private static void fraction(String what, PumpCrossing x, long upper, long lower) {
        c.due(what + ": upper", x.upper(), upper);
        c.due(what + ": lower", x.lower(), lower);
    }

    /** "PASSED of a STATION in n HOURS (1 to 24)"; "IllegalArgumentException: n", told behind the STATION. */
    private static void passedHours() {
        twins.bounds("n", ARGUMENT, Twins::running, 1, 24, (x, v) -> x.passed(0, v, true) ? 1 : 0);
        twins.bounds("n", ARGUMENT, Twins::running, 1, 24, (x, v) -> x.passed(0, v, false) ? 1 : 0);
        twins.refused("no station and n", ELEMENT, Twins::running, x -> x.passed(2, 0, true));
        twins.refused("no station and n", ELEMENT, Twins::running, x -> x.passed(-1, 25, true));
    }

    /** "for which BOARDS have HOURS t - 1 and t - 1 + n". */
    private static void passedBoardsThere() {
        PumpCrossing early = ruled(40, 60, "up 1;");
        early.cost(0, 41);
        early.run(30);
        c.due("no board ahead of hour 0", early.passed(0, 1, true), false);
        int[] all = {1, 2, 24};
        for (int n : all) {
            PumpCrossing x = ruled(40, 60, "up 1;");
            x.run(1);
            x.cost(0, 41);
            x.run(n - 1);
            c.due("board " + n + " is to come", x.passed(0, n, true), false);
            x.run(1);
            c.due("board " + n + " is there", x.passed(0, n, true), true);
            fraction("in " + n, x, n, 1);
        }
    }

    /** The same where BOARDS are cut off: HOUR t - 1 must be one of the latest 256. */
    private static void passedBoardsKept() {
        PumpCrossing x = ruled(40, 60, "up 1;");
        x.run(11);
        x.cost(0, 41);
        x.run(255);
        c.due("board 10 is the oldest", x.count(2) - x.count(3), 10);
        c.due("board 10 is there", x.passed(0, 24, true), true);
        x.run(1);
        c.due("board 10 is cut off", x.passed(0, 24, true), false);
        fraction("as it was", x, 24, 1);
    }

    /** "(0, if it went the other way)". */
    private static void passedTheOtherWay() {
        int[][] due = {{45, 0, 1}, {35, 4, 5}};
        for (int[] d : due) {
            PumpCrossing x = ruled(40, 60, "down 2;");
            x.run(1);
            x.cost(0, d[0]);
            x.run(2);
            c.due("passed", x.passed(0, 2, d[0] > 40), true);
            fraction("down by 4, cost " + d[0], x, d[1], d[2]);
            c.due("no change of the other way", x.passed(0, 2, d[0] < 40), false);
        }
        PumpCrossing up = ruled(40, 60, "up 2;");
        up.run(1);
        up.cost(0, 35);
        up.run(2);
        c.due("passed", up.passed(0, 2, false), true);
        fraction("up by 4", up, 0, 1);
        PumpCrossing still = ruled(40, 60, "keep;");
        still.run(1);
        still.cost(0, 41);
        still.run(1);
        c.due("passed", still.passed(0, 1, true), true);
        fraction("it stood", still, 0, 1);
    }

    /** "all by which its PRICE went up (down) ..., by all by which COST was changed"; "by least numbers". */
    private static void passedByLeastNumbers() {
        PumpCrossing x = ruled(40, 30, "up 3;");
        x.run(1);
        x.cost(0, 46);
        x.cost(0, 42);
        x.cost(0, 45);
        x.run(2);
        x.cost(0, 48);
        x.run(2);
        c.due("upwards", x.passed(0, 2, true), true);
        fraction("18 by 12", x, 3, 2);
        c.due("upwards, the first two", x.passed(0, 4, true), true);
        fraction("24 by 9", x, 8, 3);
        c.due("downwards", x.passed(0, 2, false), true);
        fraction("0 by 4", x, 0, 1);
    }

    /** "false, and it stays, if there is no such change". */
    private static void passedFalse() {
        twins.unmoved("none downwards", 0, Twins::running, x -> x.passed(0, 3, false) ? 1 : 0);
        twins.unmoved("none upwards", 0, Twins::running, x -> x.passed(1, 3, true) ? 1 : 0);
        twins.unmoved("no changes", 0, Twins::begun, x -> x.passed(0, 1, true) ? 1 : 0);
        twins.unmoved("changes without boards", 0, Twins::full, x -> x.passed(0, 24, true) ? 1 : 0);
        PumpCrossing x = new PumpCrossing();
        x.station(40, 60, 0);
        c.due("no change", x.passed(0, 1, true), false);
        fraction("none", x, 0, 0);
    }

    /** "of the latest FRACTION ...; 0 without any": by passed() or by odds(), whichever came last. */
    private static void latestFraction() {
        PumpCrossing x = ruled(40, 60, "up 3;");
        fraction("without any", x, 0, 0);
        x.run(1);
        x.cost(0, 42);
        x.run(1);
        x.odds();
        fraction("by odds", x, 1, 1);
        c.due("passed", x.passed(0, 1, true), true);
        fraction("by passed", x, 3, 2);
        c.due("not passed", x.passed(0, 2, true), false);
        fraction("still by passed", x, 3, 2);
        x.odds();
        fraction("by odds again", x, 1, 1);
    }
}
