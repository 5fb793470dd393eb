import java.util.NoSuchElementException;

/** Promises 31 to 36: story, rise, odds, fill, told, fit. */
public final class StoriesTest {
    private static final Checks c = new Checks();

    public static void main(String[] args) {
        stories();
        rises();
        odds();
        oddsOfNothing();
        fillings();
        fillingsWrong();
        toldRows();
        fits();
        fitsByLaw();
        fitsAgainstHours();
        c.end();
    }

    private static long[] weights(int all) {
        long[] row = new long[21];
        java.util.Arrays.fill(row, all);
        return row;
    }

    private static void odds(PumpCrossing x, long upper, long lower) {
        x.odds();
        c.due("upper", x.upper(), upper);
        c.due("lower", x.lower(), lower);
    }

    private static void stories() {
        PumpCrossing x = new PumpCrossing();
        c.dueThrow("story 2", NoSuchElementException.class, () -> x.story(2, 0));
        c.dueThrow("story -1", NoSuchElementException.class, () -> x.story(-1, 0));
        c.dueThrow("tray 4", NoSuchElementException.class, () -> x.story(0, 4));
        c.dueThrow("tray -1", NoSuchElementException.class, () -> x.story(0, -1));
        c.dueThrow("missing", IllegalStateException.class, () -> x.story(0, 0));
        x.rise(20, -1, -1);
        for (int sort = 0; sort < 4; sort++) {
            Checks.tray(x, sort, sort, weights(2 + sort));
            c.due("a story by sort " + sort, x.story(0, sort), true);
            odds(x, 2 + sort, 1);
        }
        x.tray(0, 0, 20);
        c.due("too few", x.story(0, 0), false);
        x.tray(0, 0, 22);
        c.due("too many", x.story(0, 0), false);
        long[] spoiled = weights(7);
        spoiled[0] = 10;
        Checks.tray(x, 0, 0, spoiled);
        c.due("10", x.story(0, 0), false);
        spoiled[0] = -1;
        Checks.tray(x, 0, 3, spoiled);
        c.due("-1", x.story(0, 0), false);
        spoiled[0] = 1L << 32;
        Checks.tray(x, 0, 3, spoiled);
        c.due("beyond 32 bits", x.story(0, 0), false);
        odds(x, 5, 1);
        Checks.tray(x, 0, 0, weights(9));
        x.story(1, 0);
        odds(x, 5, 9);
        x.write(0, 20, 1);
        odds(x, 5, 9);
    }

    private static void rises() {
        PumpCrossing x = new PumpCrossing();
        c.dueThrow("a 21", IllegalArgumentException.class, () -> x.rise(21, 0, 0));
        c.dueThrow("a NONE", IllegalArgumentException.class, () -> x.rise(-1, 0, 0));
        c.dueThrow("b 21", IllegalArgumentException.class, () -> x.rise(0, 21, 0));
        c.dueThrow("b -2", IllegalArgumentException.class, () -> x.rise(0, -2, 0));
        c.dueThrow("c 21", IllegalArgumentException.class, () -> x.rise(0, 0, 21));
        c.dueThrow("c -2", IllegalArgumentException.class, () -> x.rise(0, 0, -2));
        c.due("none of them", x.count(5), 0);
        c.due("one lag, c isn't asked", x.rise(0, -1, 99), 0);
        c.due("two lags", x.rise(20, 0, -1), 1);
        c.due("three lags", x.rise(1, 2, 20), 2);
        x.rise(1, 1, 1);
        x.rise(1, 1, 1);
        c.due("sixth", x.rise(1, 1, 1), 5);
        c.due("seventh", x.rise(1, 1, 1), -1);
        c.dueThrow("seventh, wrong", IllegalArgumentException.class, () -> x.rise(21, 1, 1));
        c.due("how many", x.count(5), 6);
    }

    private static void odds() {
        PumpCrossing x = new PumpCrossing();
        odds(x, 1, 1);
        long[] zero = weights(1);
        zero[0] = 6;
        zero[5] = 2;
        Checks.tray(x, 0, 0, zero);
        x.story(0, 0);
        odds(x, 1, 1);
        x.rise(0, 5, -1);
        odds(x, 12, 1);
        long[] one = weights(1);
        one[0] = 4;
        one[5] = 9;
        Checks.tray(x, 0, 0, one);
        x.story(1, 0);
        odds(x, 1, 3);
        x.rise(5, -1, 0);
        odds(x, 2, 27);
        PumpCrossing y = new PumpCrossing();
        for (int k = 0; k < 6; k++) {
            y.rise(3, 3, 3);
        }
        Checks.tray(y, 0, 0, weights(9));
        y.story(0, 0);
        odds(y, 150094635296999121L, 1);
        Checks.tray(y, 0, 0, weights(8));
        y.story(1, 0);
        odds(y, 150094635296999121L, 18014398509481984L);
    }

    private static void oddsOfNothing() {
        PumpCrossing x = new PumpCrossing();
        x.rise(3, 4, -1);
        long[] zero = weights(5);
        zero[3] = 0;
        Checks.tray(x, 0, 0, zero);
        x.story(0, 0);
        Checks.tray(x, 1, 0, weights(7));
        x.story(1, 1);
        odds(x, 0, 1);
        x.story(1, 0);
        odds(x, 0, 0);
        x.story(0, 1);
        odds(x, 1, 0);
    }

    private static void row(PumpCrossing x, int tank, int f, int paid, int... filled) {
        c.due("paid", x.fill(0, tank, f, -1), paid);
        for (int day = 0; day < filled.length; day++) {
            c.due("filled on day " + day, x.fill(0, tank, f, day), filled[day]);
        }
        c.due("no such day", x.fill(0, tank, f, filled.length), -1);
        c.due("no such day", x.fill(0, tank, f, -2), -1);
    }

    private static void fillings() {
        PumpCrossing x = new PumpCrossing();
        Checks.tray(x, 0, 1, 5, 1, 9);
        row(x, 2, 1, 2, 0, 2, 0);
        row(x, 1, 0, 15, 1, 1, 1);
        row(x, 3, 0, 7, 1, 2, 0);
        row(x, 12, 12, 0, 0, 0, 0);
        Checks.tray(x, 0, 0, 4, 4, 4);
        row(x, 3, 0, 12, 1, 1, 1);
        row(x, 3, 2, 4, 0, 0, 1);
        Checks.tray(x, 0, 0, 0, 0, 7);
        // For nothing: as late as it can be.
        row(x, 2, 0, 0, 1, 2, 0);
        Checks.tray(x, 0, 3, 99);
        row(x, 12, 0, 99, 1);
        x.tray(0, 2, 28);
        for (int day = 0; day < 28; day++) {
            x.write(0, day, day % 2 == 0 ? 1 : 99);
        }
        c.due("28 days", x.fill(0, 12, 0, -1), 28);
        c.due("28 days, a tank of one", x.fill(0, 1, 0, -1), 14 + 14 * 99);
    }

    private static void fillingsWrong() {
        PumpCrossing x = new PumpCrossing();
        c.dueThrow("no tray", NoSuchElementException.class, () -> x.fill(4, 0, 0, 0));
        c.dueThrow("no tray", NoSuchElementException.class, () -> x.fill(-1, 0, 0, 0));
        c.dueThrow("missing", IllegalStateException.class, () -> x.fill(0, 0, 0, 0));
        x.tray(0, 0, 0);
        c.dueThrow("no prices", IllegalArgumentException.class, () -> x.fill(0, 1, 0, -1));
        x.tray(0, 1, 2);
        c.due("prices 0", x.fill(0, 1, 0, -1), 0);
        c.dueThrow("tank 0", IllegalArgumentException.class, () -> x.fill(0, 0, 0, -1));
        c.dueThrow("tank 13", IllegalArgumentException.class, () -> x.fill(0, 13, 0, -1));
        c.dueThrow("f -1", IllegalArgumentException.class, () -> x.fill(0, 5, -1, -1));
        c.dueThrow("f 6", IllegalArgumentException.class, () -> x.fill(0, 5, 6, -1));
        x.write(0, 1, 100);
        c.dueThrow("price 100", IllegalArgumentException.class, () -> x.fill(0, 5, 5, 7));
        x.write(0, 1, -1);
        c.dueThrow("price -1", IllegalArgumentException.class, () -> x.fill(0, 5, 5, 7));
    }

    private static void toldRows() {
        PumpCrossing x = new PumpCrossing();
        c.dueThrow("no station", IllegalStateException.class, () -> x.told(100, 1, 1, 1));
        x.station(40, 60, 0);
        x.station(40, 60, 0);
        c.dueThrow("a", IllegalArgumentException.class, () -> x.told(100, 1, 1, 1));
        c.dueThrow("b", IllegalArgumentException.class, () -> x.told(1, -1, 1, 1));
        c.due("none of them", x.count(6), 0);
        c.due("c and d aren't asked", x.told(0, 99, 100, -1), 1);
        for (int k = 2; k <= 60; k++) {
            c.due("more", x.told(1, 1, 0, 0), k);
        }
        c.due("a 61st", x.told(1, 1, 0, 0), -1);
        c.dueThrow("a 61st, wrong", IllegalArgumentException.class, () -> x.told(1, 100, 0, 0));
        c.due("how many", x.count(6), 60);
        c.due("prices stay", x.price(0), 60);
        PumpCrossing y = new PumpCrossing();
        for (int k = 0; k < 4; k++) {
            y.station(1, 1, 0);
        }
        c.dueThrow("c", IllegalArgumentException.class, () -> y.told(1, 1, 100, 1));
        c.dueThrow("d", IllegalArgumentException.class, () -> y.told(1, 1, 1, 100));
    }

    private static PumpCrossing toldBy(String rules, int... pairs) {
        PumpCrossing x = new PumpCrossing();
        x.station(40, 1, 0);
        x.station(40, 2, 0);
        Checks.rules(x, 0, rules);
        for (int k = 0; k < pairs.length; k += 2) {
            x.told(pairs[k], pairs[k + 1], 0, 0);
        }
        return x;
    }

    private static void fits() {
        c.dueThrow("no station", NoSuchElementException.class, () -> new PumpCrossing().fit(0));
        PumpCrossing x = toldBy("match;");
        c.dueThrow("no such station", NoSuchElementException.class, () -> x.fit(2));
        c.due("no rows", x.fit(0), -1);
        x.told(50, 60, 0, 0);
        c.due("one row", x.fit(0), -1);
        c.due("own prices aren't asked", toldBy("match;", 50, 60, 60, 70, 70, 80).fit(0), -1);
        c.due("row 2", toldBy("match;", 50, 60, 60, 70, 71, 80, 9, 9).fit(0), 2);
        c.due("row 1", toldBy("match;", 50, 60, 50, 70).fit(0), 1);
        c.due("on from what was told", toldBy("up 1;", 50, 60, 60, 60, 61, 60).fit(0), 1);
        PumpCrossing late = toldBy("match;", 50, 60, 60, 61, 60, 62, 61, 63, 62, 0);
        late.late(0, 1);
        c.due("one late", late.fit(0), -1);
        late.late(0, 3);
        c.due("three late: row 0 up to row 3", late.fit(0), 3);
        c.due("hour", toldBy("up 5 when hour=2;", 50, 60, 50, 60, 55, 60, 55, 60).fit(0), -1);
        c.due("rose", toldBy("up 5 when rose=1;", 50, 60, 50, 61, 55, 60, 55, 60).fit(0), -1);
        c.due("fell", toldBy("up 5 when fell=1;", 50, 60, 50, 61, 50, 60, 55, 60).fit(0), -1);
        c.due("nothing rose ahead of row 0", toldBy("up 5 when rose>0;", 50, 60, 50, 61).fit(0), -1);
        c.due("never: row 2 and 1", toldBy("up 5 when since=3;", 50, 60, 50, 60, 55, 60).fit(0), -1);
        c.due("since row 2", toldBy("up 5 when since=3 or since=2;",
                50, 60, 55, 60, 55, 60, 60, 60, 60, 60, 65, 60, 65, 60, 70, 60).fit(0), -1);
        PumpCrossing cost = toldBy("to 41 when cost=41;", 50, 60, 50, 60);
        c.due("cost as it was", cost.fit(0), -1);
        cost.cost(0, 41);
        c.due("cost as it is", cost.fit(0), 1);
        PumpCrossing day = toldBy("to 9 when day=1;");
        for (int k = 0; k < 60; k++) {
            day.told(k < 24 ? 50 : 9, 60, 0, 0);
        }
        c.due("day", day.fit(0), -1);
    }

    private static void fitsByLaw() {
        PumpCrossing x = toldBy("up 9;", 50, 60, 53, 60, 56, 60, 59, 60);
        c.due("without a law", x.fit(0), 1);
        Checks.law(x, "cap 3;");
        c.due("cap", x.fit(0), -1);
        Checks.law(x, "cap 3;once 2;");
        c.due("once: not in row 2", x.fit(0), 2);
        Checks.law(x, "cap 3;at 1;at 2;");
        c.due("at: not in row 3", x.fit(0), 3);
    }

    private static void fitsAgainstHours() {
        PumpCrossing x = toldBy("up 1;", 50, 60, 51, 60, 52, 60);
        x.run(7);
        c.due("hours run don't count", x.fit(0), -1);
        c.due("rows told don't count", x.price(0), 8);
        c.due("the other one keeps", x.fit(1), -1);
    }
}
