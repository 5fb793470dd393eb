import java.util.Arrays;
import java.util.NoSuchElementException;

/** Promises 31 to 36 (story, rise, odds, fill, told, fit): a test for each sentence that names an edge. */
public final class StoriesEdgesTest {
    private static final Class<?> STATE = IllegalStateException.class;
    private static final Class<?> ARGUMENT = IllegalArgumentException.class;
    private static final Class<?> ELEMENT = NoSuchElementException.class;

    private static final Checks c = new Checks();
    private static final Twins twins = new Twins(c);

    public static void main(String[] args) {
        storiesNumber();
        storyByNoTray();
        storyThrowsInOrder();
        storyOf21();
        storyOfWeights();
        storyIsKept();
        weightsAtFirst();
        lagsOfRises();
        behindANone();
        sixRises();
        oddsOfNoRises();
        oddsOfNought();
        oddsAtTheirMost();
        oddsByLeastNumbers();
        fillByNoTray();
        fillsNumbers();
        fillsPrices();
        fillsDays();
        fillThrowsInOrder();
        daysAsked();
        tillItIsFull();
        neverBelowNought();
        usedBehindFilling();
        theFirstRow();
        dearestFilling();
        shorterBehindLonger();
        toldWithoutStations();
        toldPrices();
        toldNotAsked();
        sixtyRows();
        fitOfNoStation();
        fitOfFewRows();
        fitFromRowOneOn();
        fitAheadOfRowNought();
        fitOfHours();
        fitOfSince();
        fitAsTheyAre();
        fitByLaw();
        c.end();
    }

    private static long[] weights(long all) {
        long[] row = new long[21];
        Arrays.fill(row, all);
        return row;
    }

    private static void odds(String what, PumpCrossing x, long upper, long lower) {
        x.odds();
        c.due(what + ": upper", x.upper(), upper);
        c.due(what + ": lower", x.lower(), lower);
    }

    // ---- Promise 31

    private static int story(PumpCrossing x, int story, int tray) {
        return x.story(story, tray) ? 1 : 0;
    }

    /** "NoSuchElementException: no such STORY": 0 and 1 are there. */
    private static void storiesNumber() {
        twins.bounds("story", ELEMENT, Twins::running, 0, 1, (x, v) -> story(x, v, 0));
        PumpCrossing x = Twins.running();
        c.due("story 0", x.story(0, 0), true);
        c.due("story 1", x.story(1, 0), true);
    }

    /** "no such ... TRAY; IllegalStateException: it is MISSING". */
    private static void storyByNoTray() {
        twins.bounds("story by tray", ELEMENT, Twins::full, 0, 3, (x, v) -> story(x, 0, v));
        twins.refused("story by a missing one", STATE, Twins::running, x -> x.story(0, 3));
        twins.unmoved("story by an empty one", 0, Twins::running, x -> story(x, 0, 2));
    }

    private static void storyThrowsInOrder() {
        twins.refused("no story and a missing tray", ELEMENT, Twins::running, x -> x.story(2, 3));
        twins.refused("no story and no tray", ELEMENT, Twins::running, x -> x.story(-1, 4));
    }

    private static PumpCrossing withTray(int many, int place, long v) {
        PumpCrossing x = Twins.running();
        x.tray(3, 3, many);
        if (place < many) {
            x.write(3, place, v);
        }
        return x;
    }

    /** "Weights of a STORY are the numbers of a TRAY (21 of them) ...; false, and nothing changes, ... not so many". */
    private static void storyOf21() {
        int[] wrong = {0, 1, 20, 22, 28};
        for (int many : wrong) {
            twins.unmoved(many + " numbers", 0, () -> withTray(many, 0, 1), x -> story(x, 0, 3));
            twins.unmoved(many + " numbers", 0, () -> withTray(many, 0, 1), x -> story(x, 1, 3));
        }
        c.due("21 numbers", withTray(21, 0, 1).story(0, 3), true);
    }

    /** "or one isn't 0 to 9". */
    private static void storyOfWeights() {
        int[] places = {0, 10, 20};
        for (int place : places) {
            long[] wrong = {-1, 10, 1L << 32, 5 + (1L << 32), Long.MIN_VALUE, Long.MAX_VALUE};
            for (long v : wrong) {
                twins.unmoved("weight " + v, 0, () -> withTray(21, place, v), x -> story(x, 0, 3));
            }
            c.due("weight 0", withTray(21, place, 0).story(0, 3), true);
            c.due("weight 9", withTray(21, place, 9).story(0, 3), true);
        }
        PumpCrossing x = new PumpCrossing();
        x.tray(0, 0, 21);
        x.write(0, 0, 256 + 9);
        c.due("9 behind the cut", x.story(0, 0), true);
        x.write(0, 0, 255);
        c.due("-1 behind the cut", x.story(0, 0), false);
    }

    /** What comes to the TRAY behind story() isn't the STORY's. */
    private static void storyIsKept() {
        PumpCrossing x = new PumpCrossing();
        x.rise(0, 20, -1);
        Checks.tray(x, 0, 0, weights(3));
        x.story(0, 0);
        x.write(0, 0, 9);
        x.tray(0, 0, 3);
        odds("kept", x, 9, 1);
        c.due("refused", x.story(0, 0), false);
        odds("still kept", x, 9, 1);
        Checks.tray(x, 0, 0, weights(2));
        x.story(1, 0);
        odds("one by the other", x, 9, 4);
    }

    /** "weights (0 to 9) of lags 0 to 20 (1 each at first)". */
    private static void weightsAtFirst() {
        for (int lag = 0; lag <= 20; lag++) {
            PumpCrossing x = new PumpCrossing();
            x.rise(lag, -1, -1);
            odds("at first, lag " + lag, x, 1, 1);
            long[] row = weights(1);
            row[lag] = 9;
            Checks.tray(x, 0, 0, row);
            x.story(0, 0);
            odds("lag " + lag, x, 9, 1);
        }
    }

    // ---- Promise 32

    /** "lags (0 to 20) of up to three who followed"; "IllegalArgumentException: a lag". */
    private static void lagsOfRises() {
        twins.bounds("a", ARGUMENT, Twins::running, 0, 20, (x, v) -> x.rise(v, 1, 1));
        twins.bounds("a alone", ARGUMENT, Twins::running, 0, 20, (x, v) -> x.rise(v, -1, -1));
        twins.bounds("b, or NONE", ARGUMENT, Twins::running, -1, 20, (x, v) -> x.rise(1, v, 1));
        twins.bounds("c, or NONE", ARGUMENT, Twins::running, -1, 20, (x, v) -> x.rise(1, 1, v));
        twins.refused("c, and b at its most", ARGUMENT, Twins::running, x -> x.rise(0, 20, 21));
    }

    /** "b, c: lags, or NONE for no further one; what is told behind a NONE isn't asked". */
    private static void behindANone() {
        int[] notAsked = {-2, -1, 0, 20, 21, Integer.MIN_VALUE, Integer.MAX_VALUE};
        for (int lag : notAsked) {
            PumpCrossing x = new PumpCrossing();
            Checks.tray(x, 0, 0, weights(3));
            x.story(0, 0);
            c.due("behind a NONE: " + lag, x.rise(5, -1, lag), 0);
            odds("one lag", x, 3, 1);
            x.rise(5, 5, -1);
            odds("two more", x, 27, 1);
            x.rise(5, 5, 5);
            odds("three more", x, 729, 1);
        }
    }

    private static PumpCrossing sixThere() {
        PumpCrossing x = Twins.running();
        for (int k = 2; k < 6; k++) {
            c.due("rise " + k, x.rise(k, k, k), k);
        }
        return x;
    }

    /** "RISES, at most 6"; "its number; NONE if there are 6". */
    private static void sixRises() {
        c.due("six", sixThere().count(5), 6);
        twins.unmoved("a seventh", -1, StoriesEdgesTest::sixThere, x -> x.rise(0, 1, 2));
        twins.unmoved("a seventh of all", -1, Twins::full, x -> x.rise(0, -1, -1));
        twins.refused("a seventh with a wrong lag", ARGUMENT, StoriesEdgesTest::sixThere, x -> x.rise(0, 1, 21));
    }

    // ---- Promise 33

    private static PumpCrossing told(long zero, long one, int rises) {
        PumpCrossing x = new PumpCrossing();
        Checks.tray(x, 0, 0, weights(zero));
        Checks.tray(x, 1, 0, weights(one));
        x.story(0, 0);
        x.story(1, 1);
        for (int k = 0; k < rises; k++) {
            x.rise(0, 20, 10);
        }
        return x;
    }

    /** "the product, over all RISES and lags": of none it is 1. */
    private static void oddsOfNoRises() {
        odds("new", new PumpCrossing(), 1, 1);
        odds("weights without rises", told(0, 7, 0), 1, 1);
    }

    /** "(upper 0: 0 over 1; lower 0, upper not: 1 over 0; both 0: 0 over 0)". */
    private static void oddsOfNought() {
        odds("upper 0", told(0, 7, 1), 0, 1);
        odds("lower 0", told(7, 0, 1), 1, 0);
        odds("both 0", told(0, 0, 1), 0, 0);
        odds("upper 0, of six", told(0, 9, 6), 0, 1);
        odds("lower 0, of six", told(9, 0, 6), 1, 0);
        PumpCrossing x = told(5, 7, 1);
        long[] row = weights(5);
        row[20] = 0;
        Checks.tray(x, 0, 0, row);
        x.story(0, 0);
        odds("one weight of 0", x, 0, 1);
    }

    /** Six RISES of three lags each, with weights of 9: all is there to the last digit. */
    private static void oddsAtTheirMost() {
        odds("9 to the 18th", told(9, 1, 6), 150094635296999121L, 1);
        odds("by 9 to the 18th", told(1, 9, 6), 1, 150094635296999121L);
        odds("alike", told(9, 9, 6), 1, 1);
        odds("by 8 to the 18th", told(9, 8, 6), 150094635296999121L, 18014398509481984L);
        odds("by 6 to the 18th", told(9, 6, 6), 387420489L, 262144L);
    }

    /** "a FRACTION by least numbers". */
    private static void oddsByLeastNumbers() {
        odds("8 by 4, cubed", told(8, 4, 1), 8, 1);
        odds("4 by 6, cubed", told(4, 6, 1), 8, 27);
        odds("1 by 9, cubed", told(1, 9, 1), 1, 729);
    }

    // ---- Promise 34

    private static PumpCrossing prices(long... row) {
        PumpCrossing x = Twins.running();
        Checks.tray(x, 3, 3, row);
        return x;
    }

    private static void row(String what, int tank, int f, long[] prices, int paid, int... filled) {
        PumpCrossing x = prices(prices);
        c.due(what + ": paid", x.fill(3, tank, f, -1), paid);
        for (int day = 0; day < filled.length; day++) {
            c.due(what + ": day " + day, x.fill(3, tank, f, day), filled[day]);
        }
    }

    /** "NoSuchElementException: no such TRAY; IllegalStateException: it is MISSING". */
    private static void fillByNoTray() {
        twins.bounds("fill by tray", ELEMENT, Twins::full, 0, 3, (x, v) -> x.fill(v, 1, 0, -1));
        twins.refused("fill by a missing one", STATE, Twins::running, x -> x.fill(3, 1, 0, -1));
    }

    /** "a TANK (1 to 12) with f in it"; "the TANK, f (0 to the TANK)". */
    private static void fillsNumbers() {
        twins.bounds("the TANK", ARGUMENT, Twins::running, 1, 12, (x, v) -> x.fill(1, v, 0, -1));
        int[] tanks = {1, 5, 12};
        for (int tank : tanks) {
            twins.bounds("f of " + tank, ARGUMENT, Twins::running, 0, tank, (x, v) -> x.fill(1, tank, v, -1));
        }
        twins.refused("f above a TANK that is wrong", ARGUMENT, Twins::running, x -> x.fill(1, 0, 0, -1));
    }

    /** "the DAY's price (of a TRAY, 0 to 99 ...)"; "prices". */
    private static void fillsPrices() {
        int[] places = {0, 1, 2};
        for (int place : places) {
            long[] wrong = {-1, 100, 1L << 32, Long.MIN_VALUE, Long.MAX_VALUE};
            for (long v : wrong) {
                twins.refused("price " + v, ARGUMENT, () -> withTray(3, place, v), x -> x.fill(3, 12, 12, -1));
                twins.refused("price " + v, ARGUMENT, () -> withTray(3, place, v), x -> x.fill(3, 12, 12, 3));
            }
            c.due("price 99", withTray(3, place, 99).fill(3, 1, 0, -1), 99);
            c.due("price 0", withTray(3, place, 0).fill(3, 1, 0, -1), 0);
        }
        c.due("a price of weights that are prices", Twins.running().fill(0, 1, 0, -1), 21 * 2 + 1 + 3 + 5);
    }

    /** "1 to 28 DAYS"; "not 1 to 28 of them". */
    private static void fillsDays() {
        twins.refused("no days", ARGUMENT, Twins::running, x -> x.fill(2, 12, 12, -1));
        twins.refused("no days", ARGUMENT, Twins::running, x -> x.fill(2, 12, 12, 0));
        c.due("one day", withTray(1, 0, 7).fill(3, 12, 0, -1), 7);
        c.due("28 days", withTray(28, 27, 7).fill(3, 1, 0, -1), 7);
        c.due("28 days, the last", withTray(28, 27, 7).fill(3, 1, 0, 27), 1);
    }

    /** "Of several throws of a call that one comes that is told first", and ahead of an answer NONE. */
    private static void fillThrowsInOrder() {
        twins.refused("no tray and a TANK", ELEMENT, Twins::running, x -> x.fill(4, 0, 0, -1));
        twins.refused("a missing one and a TANK", STATE, Twins::running, x -> x.fill(3, 13, 0, -1));
        twins.refused("a missing one and f", STATE, Twins::running, x -> x.fill(3, 12, 13, -1));
        twins.refused("a TANK and another day", ARGUMENT, Twins::running, x -> x.fill(1, 13, 0, 9));
        twins.refused("f and another day", ARGUMENT, Twins::running, x -> x.fill(1, 12, 13, -2));
    }

    /** "the least paid (day NONE), or what is filled on a DAY; NONE: another DAY". */
    private static void daysAsked() {
        c.due("paid", Twins.running().fill(1, 2, 1, -1), 2);
        c.due("the first day", Twins.running().fill(1, 2, 1, 0), 0);
        c.due("the last day", Twins.running().fill(1, 2, 0, 2), 0);
        int[] others = {3, 4, 28, -2, Integer.MIN_VALUE, Integer.MAX_VALUE};
        for (int day : others) {
            twins.unmoved("day " + day, -1, Twins::running, x -> x.fill(1, 2, 1, day));
        }
        twins.unmoved("paid", 2, Twins::running, x -> x.fill(1, 2, 1, -1));
        twins.unmoved("a day", 2, Twins::running, x -> x.fill(1, 2, 1, 1));
    }

    /** "any number may be filled till it is full". */
    private static void tillItIsFull() {
        row("a tank of two", 2, 0, new long[] {1, 9, 9}, 11, 2, 0, 1);
        row("a tank of three", 3, 0, new long[] {1, 9, 9}, 3, 3, 0, 0);
        row("one is in it", 2, 1, new long[] {1, 9, 9}, 10, 1, 0, 1);
        row("it is full", 2, 2, new long[] {1, 9, 9}, 9, 0, 0, 1);
        row("twelve", 12, 0, new long[] {1, 9, 9, 9, 9, 9, 9, 9, 9, 9, 9, 9, 9}, 21, 12, 0, 0);
    }

    /** "never below 0". */
    private static void neverBelowNought() {
        row("an empty one", 12, 0, new long[] {9, 1}, 10, 1, 1);
        row("one in it", 12, 1, new long[] {9, 1}, 1, 0, 1);
        row("two in it", 12, 2, new long[] {9, 1}, 0, 0, 0);
        row("a tank of one", 1, 0, new long[] {9, 1, 9}, 19, 1, 1, 1);
        row("12 in it for 12 days", 12, 12, new long[12], 0, 0, 0, 0, 0, 0, 0, 0, 0, 0, 0, 0, 0);
        row("12 in it for 13 days", 12, 12, new long[] {9, 9, 9, 9, 9, 9, 9, 9, 9, 9, 9, 9, 7}, 7,
                0, 0, 0, 0, 0, 0, 0, 0, 0, 0, 0, 0, 1);
    }

    /** "each DAY one is used (behind filling)": what is used makes room for the next DAY alone. */
    private static void usedBehindFilling() {
        row("no room on day 0", 1, 1, new long[] {1, 9}, 9, 0, 1);
        row("room for one on day 1", 2, 2, new long[] {1, 1, 9}, 1, 0, 1, 0);
    }

    /** "the first row of what is filled by which that is so". */
    private static void theFirstRow() {
        row("alike", 12, 0, new long[] {4, 4, 4}, 12, 1, 1, 1);
        row("alike, two in it", 3, 2, new long[] {4, 4, 4}, 4, 0, 0, 1);
        row("for nothing", 12, 0, new long[] {0, 0, 0}, 0, 1, 1, 1);
        row("for nothing, but the last", 3, 0, new long[] {0, 0, 9}, 0, 1, 2, 0);
        row("nothing is left over", 12, 0, new long[] {1, 9}, 2, 2, 0);
    }

    /** 28 DAYS at 99. */
    private static void dearestFilling() {
        long[] all = new long[28];
        Arrays.fill(all, 99);
        row("a tank of one", 1, 0, all, 28 * 99, 1, 1, 1);
        row("a tank of twelve, full", 12, 12, all, 16 * 99, 0, 0, 0);
    }

    /** A call that is made behind others answers as if it were the first. */
    private static void shorterBehindLonger() {
        PumpCrossing x = new PumpCrossing();
        long[] all = new long[28];
        Arrays.fill(all, 9);
        Checks.tray(x, 0, 0, all);
        Checks.tray(x, 1, 0, 9, 9, 9);
        c.due("28 days, 12 in it", x.fill(0, 12, 12, -1), 16 * 9);
        for (int f = 0; f <= 12; f++) {
            c.due("three days, " + f + " in it", x.fill(1, 12, f, -1), 9 * Math.max(0, 3 - f));
            c.due("on the last of them", x.fill(1, 12, f, 2), f < 3 ? 1 : 0);
        }
    }

    // ---- Promise 35

    /** "IllegalStateException: there is no STATION", told ahead of a PRICE. */
    private static void toldWithoutStations() {
        twins.refused("no station", STATE, PumpCrossing::new, x -> x.told(1, 1, 1, 1));
        twins.refused("no station and a price", STATE, PumpCrossing::new, x -> x.told(100, -1, 1, 1));
    }

    private static PumpCrossing stations(int many) {
        PumpCrossing x = new PumpCrossing();
        for (int s = 0; s < many; s++) {
            x.station(40, 60, 0);
        }
        x.told(60, 60, 60, 60);
        return x;
    }

    private static long tellOne(PumpCrossing x, int place, int v) {
        int[] row = {1, 2, 3, 4};
        row[place] = v;
        return x.told(row[0], row[1], row[2], row[3]);
    }

    /** "rows of PRICES (of all STATIONS as they are then)"; "IllegalArgumentException: a PRICE". */
    private static void toldPrices() {
        for (int many = 1; many <= 4; many++) {
            int stations = many;
            for (int place = 0; place < many; place++) {
                int p = place;
                twins.bounds("price " + p + " of " + many, ARGUMENT, () -> stations(stations), 0, 99,
                        (x, v) -> tellOne(x, p, v));
            }
        }
    }

    /** "(what is told for STATIONS that aren't there isn't asked)". */
    private static void toldNotAsked() {
        for (int many = 1; many < 4; many++) {
            for (int place = many; place < 4; place++) {
                int[] any = {-1, 100, Integer.MIN_VALUE, Integer.MAX_VALUE};
                for (int v : any) {
                    PumpCrossing x = stations(many);
                    c.due("not asked: " + place + " of " + many, tellOne(x, place, v), 2);
                    c.due("a row more", x.count(6), 2);
                }
            }
        }
    }

    /** "TOLD BOARDS, at most 60"; "how many there are; NONE if there are 60". */
    private static void sixtyRows() {
        PumpCrossing x = stations(1);
        for (int k = 2; k <= 60; k++) {
            c.due("rows", x.told(60, 0, 0, 0), k);
            c.due("rows there", x.count(6), k);
        }
        c.due("all fit", x.fit(0), -1);
        c.due("a 61st", x.told(9, 0, 0, 0), -1);
        c.due("which isn't there", x.fit(0), -1);
        twins.unmoved("a 61st of all", -1, Twins::full, y -> y.told(1, 2, 3, 4));
        twins.refused("a 61st with a wrong price", ARGUMENT, Twins::full, y -> y.told(1, 2, 3, 100));
    }

    // ---- Promise 36

    /** "no such STATION (as everywhere)". */
    private static void fitOfNoStation() {
        twins.bounds("fit", ELEMENT, Twins::running, 0, 1, (x, v) -> x.fit(v));
        twins.bounds("fit of four", ELEMENT, Twins::full, 0, 3, (x, v) -> x.fit(v));
        twins.refused("fit of none", ELEMENT, PumpCrossing::new, x -> x.fit(0));
    }

    /** One station with rules, another without, and their rows. */
    private static PumpCrossing rows(String rules, int... pairs) {
        PumpCrossing x = new PumpCrossing();
        x.station(40, 1, 0);
        x.station(40, 2, 0);
        c.due("rules: " + rules, Checks.rules(x, 0, rules) > 0, true);
        for (int k = 0; k < pairs.length; k += 2) {
            x.told(pairs[k], pairs[k + 1], 0, 0);
        }
        return x;
    }

    /** "the first row, from 1 on ...; NONE": none of none, and none of one. */
    private static void fitOfFewRows() {
        c.due("no rows", rows("to 9;").fit(0), -1);
        c.due("one row", rows("to 9;", 50, 60).fit(0), -1);
        c.due("two rows", rows("to 9;", 50, 60, 50, 60).fit(0), 1);
        c.due("two rows that fit", rows("to 9;", 50, 60, 9, 60).fit(0), -1);
        twins.unmoved("asking", Twins.running().fit(1), Twins::running, x -> x.fit(1));
    }

    /** "the first row, from 1 on, in which its PRICE is not what RULES and THE LAW make of the rows ahead". */
    private static void fitFromRowOneOn() {
        c.due("the first of two", rows("to 9;", 50, 60, 9, 60, 8, 60, 9, 60, 7, 60).fit(0), 2);
        c.due("from the row ahead, though it doesn't fit", rows("up 1;", 50, 60, 60, 60, 61, 60).fit(0), 1);
        PumpCrossing x = rows("to 9;", 9, 60);
        for (int k = 1; k < 59; k++) {
            x.told(9, 60, 0, 0);
        }
        x.told(10, 60, 0, 0);
        c.due("the last row of 60", x.fit(0), 59);
        c.due("the other one keeps", x.fit(1), -1);
    }

    /** "ahead of row 0 all was as in row 0". */
    private static void fitAheadOfRowNought() {
        for (int late = 0; late <= 3; late++) {
            PumpCrossing x = rows("match;", 50, 60);
            x.late(0, late);
            for (int k = 1; k < 8; k++) {
                x.told(60 + Math.max(0, k - 1 - late), 60 + k, 0, 0);
            }
            c.due("late " + late, x.fit(0), -1);
            x.late(0, (late + 1) % 4);
            c.due("another late than " + late, x.fit(0), late == 3 ? 2 : late + 2);
        }
        c.due("none rose ahead", rows("to 9 when rose>0 or fell>0;", 50, 60, 50, 61).fit(0), -1);
        c.due("one rose in row 1", rows("to 9 when rose>0;", 50, 60, 50, 61, 9, 61).fit(0), -1);
        c.due("one fell in row 1", rows("to 9 when fell>0;", 50, 60, 50, 59, 9, 59).fit(0), -1);
    }

    /** "row k is HOUR k", whatever was run. */
    private static void fitOfHours() {
        PumpCrossing x = rows("to 23 when hour=23;to 0 when hour=0;to 5;", 7, 60);
        x.run(30);
        for (int k = 1; k < 60; k++) {
            x.told(k % 24 == 23 ? 23 : k % 24 == 0 ? 0 : 5, 60, 0, 0);
        }
        c.due("hours", x.fit(0), -1);
        PumpCrossing y = rows("to 1 when day=1;to 2 when day=2;to 0;", 7, 60);
        y.run(30);
        for (int k = 1; k < 60; k++) {
            y.told(k / 24, 60, 0, 0);
        }
        c.due("days", y.fit(0), -1);
    }

    /** "since counts by rows, a change being in the first row that is unlike the one ahead". */
    private static void fitOfSince() {
        c.due("never: 1 and 1", rows("up 1 when since=2;", 50, 60, 51, 60).fit(0), -1);
        c.due("never: 3 and 1", rows("up 1 when since=4;", 50, 60, 50, 60, 50, 60, 51, 60).fit(0), -1);
        c.due("changed in row 1", rows("up 1 when since=2;", 50, 60, 51, 60, 51, 60, 52, 60).fit(0), -1);
        c.due("changed in row 1", rows("up 1 when since=2;", 50, 60, 51, 60, 52, 60).fit(0), 2);
        PumpCrossing run = rows("up 1 when since=2;", 50, 60, 51, 60, 51, 60, 52, 60);
        run.run(1);
        c.due("hours that were run don't count", run.fit(0), -1);
        PumpCrossing all = rows("up 1 when since=59;", 50, 60);
        for (int k = 1; k < 58; k++) {
            all.told(50, 60, 0, 0);
        }
        all.told(51, 60, 0, 0);
        all.told(51, 60, 0, 0);
        c.due("never: 58 and 1", all.fit(0), -1);
    }

    /** "COST, LATE as they are". */
    private static void fitAsTheyAre() {
        PumpCrossing x = rows("to 9 when cost=41;", 50, 60, 50, 60);
        c.due("cost 40", x.fit(0), -1);
        x.cost(0, 41);
        c.due("cost 41", x.fit(0), 1);
        x.rules(0, 0);
        c.due("rules as they are", x.fit(0), -1);
    }

    /** "what RULES and THE LAW make": cap, cost, at and once. */
    private static void fitByLaw() {
        PumpCrossing x = rows("up 9;", 50, 60, 53, 60, 53, 60, 56, 60);
        c.due("no law", x.fit(0), 1);
        Checks.law(x, "cap 3;once 2;");
        c.due("cap and once", x.fit(0), -1);
        Checks.law(x, "cap 3;once 1;");
        c.due("once 1", x.fit(0), 2);
        Checks.law(x, "cap 3;once 3;");
        c.due("once 3", x.fit(0), 1);
        Checks.law(x, "cap 3;at 1;at 3;");
        c.due("at 1 and 3", x.fit(0), -1);
        Checks.law(x, "cap 3;at 3;");
        c.due("at 3", x.fit(0), 1);
        PumpCrossing y = rows("to 1;", 50, 60, 40, 60);
        Checks.law(y, "cost;");
        c.due("cost", y.fit(0), -1);
        y.told(39, 60, 0, 0);
        c.due("below it", y.fit(0), 2);
    }
}
