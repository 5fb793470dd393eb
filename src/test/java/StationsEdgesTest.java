import java.util.NoSuchElementException;

/** Promises 1 to 5 (a new object, station, driver, cost, late): a test for each sentence that names an edge. */
public final class StationsEdgesTest {
    private static final Class<?> STATE = IllegalStateException.class;
    private static final Class<?> ARGUMENT = IllegalArgumentException.class;
    private static final Class<?> ELEMENT = NoSuchElementException.class;

    private static final Checks c = new Checks();
    private static final Twins twins = new Twins(c);

    public static void main(String[] args) {
        nothingIsTold();
        hourNoughtIsNext();
        traysAreMissing();
        anEmptyTape();
        noFraction();
        fiveHundredAndTwelveCalls();
        fourStations();
        stationsNumbers();
        stationBehindAnHour();
        stationBehindATold();
        stationThrowsInOrder();
        sixKinds();
        driversNumbers();
        driversHabit();
        driversSet();
        driverThrowsInOrder();
        fillsAtLikeOnes();
        fillsByDetour();
        costsNumbers();
        costOfNoStation();
        costFromNowOn();
        tenChanges();
        latesNumbers();
        lateOfNoStation();
        c.end();
    }

    // ---- Promise 1

    /** "Nothing is told". */
    private static void nothingIsTold() {
        PumpCrossing x = new PumpCrossing();
        for (int what = 0; what < 10; what++) {
            c.due("new: count " + what, x.count(what), 0);
        }
        c.dueThrow("new: no station", ELEMENT, () -> x.price(0));
        c.dueThrow("new: no kind", ELEMENT, () -> x.fills(0));
        for (int image = 0; image < 3; image++) {
            int i = image;
            c.dueThrow("new: no image " + i, STATE, () -> x.restore(i));
        }
        c.due("new: no law and no rules", x.station(40, 60, 0), 0);
        c.due("new: keeps", x.would(0), 60);
        x.rise(0, 20, 10);
        x.odds();
        c.due("new: weights 1", x.upper(), 1);
        c.due("new: weights 1", x.lower(), 1);
    }

    /** "HOUR 0 is next". */
    private static void hourNoughtIsNext() {
        PumpCrossing x = new PumpCrossing();
        x.station(40, 60, 0);
        c.due("since in hour 0", x.of(0, 2), 1);
        Checks.rules(x, 0, "to 9 when hour=0 and day=0 and since=1;");
        c.due("hour 0", x.would(0), 9);
        c.dueThrow("no board 0", ELEMENT, () -> x.board(0, 0));
        x.run(1);
        c.due("board 0", x.board(0, 0), 9);
    }

    /** "TRAYS are MISSING", which is other than being empty. */
    private static void traysAreMissing() {
        for (int tray = 0; tray < 4; tray++) {
            int t = tray;
            twins.refused("new: write to " + t, STATE, PumpCrossing::new, x -> x.write(t, 0, 0));
            twins.refused("new: fill by " + t, STATE, PumpCrossing::new, x -> x.fill(t, 1, 0, -1));
            twins.refused("new: story by " + t, STATE, PumpCrossing::new, x -> x.story(0, t));
        }
    }

    /** "an empty tape". */
    private static void anEmptyTape() {
        twins.refused("new: no byte", ARGUMENT, PumpCrossing::new, x -> x.law(1));
        c.due("new: no bytes", new PumpCrossing().law(0), 0);
        c.due("new: the first twenty", new PumpCrossing().feed(0, 0, 0, 0, 0), 20);
        c.due("new: fault", new PumpCrossing().fault(0), 0);
        c.due("new: place", new PumpCrossing().fault(1), -1);
    }

    /** "no FRACTION": both numbers are 0. */
    private static void noFraction() {
        c.due("new: upper", new PumpCrossing().upper(), 0);
        c.due("new: lower", new PumpCrossing().lower(), 0);
    }

    /** "An object is used for at most 512 calls": the 512th is still answered. */
    private static void fiveHundredAndTwelveCalls() {
        PumpCrossing x = new PumpCrossing();
        x.station(40, 60, 0);
        for (int call = 2; call < 512; call++) {
            x.cost(0, call % 2);
        }
        c.due("the 512th call", x.cost(0, 9), 1);
    }

    // ---- Promise 2

    private static PumpCrossing fourThere() {
        PumpCrossing x = Twins.begun();
        x.station(42, 80, 3);
        x.station(43, 90, 2);
        return x;
    }

    /** "STATIONS, at most 4, numbered as they come"; "its number; NONE if there are 4". */
    private static void fourStations() {
        PumpCrossing x = new PumpCrossing();
        for (int s = 0; s < 4; s++) {
            c.due("station " + s, x.station(10 + s, 20 + s, s), s);
            c.due("stations", x.count(0), s + 1);
            c.due("price of " + s, x.price(s), 20 + s);
        }
        for (int s = 0; s < 4; s++) {
            c.due("cost of " + s, x.cost(s, 0), 10 + s);
            c.due("late of " + s, x.late(s, 0), s);
        }
        twins.unmoved("a fifth", -1, StationsEdgesTest::fourThere, y -> y.station(44, 50, 0));
        twins.refused("a fifth with a wrong number", ARGUMENT, StationsEdgesTest::fourThere, y -> y.station(44, 50, 4));
    }

    /** "a COST and a PRICE (0 to 99 each), LATE (0 to 3)"; "IllegalArgumentException: a number". */
    private static void stationsNumbers() {
        twins.bounds("COST", ARGUMENT, Twins::begun, 0, 99, (x, v) -> x.station(v, 50, 1));
        twins.bounds("PRICE", ARGUMENT, Twins::begun, 0, 99, (x, v) -> x.station(50, v, 1));
        twins.bounds("LATE", ARGUMENT, Twins::begun, 0, 3, (x, v) -> x.station(50, 50, v));
        PumpCrossing x = new PumpCrossing();
        x.station(0, 99, 3);
        x.station(99, 0, 0);
        c.due("price 99", x.price(0), 99);
        c.due("price 0", x.price(1), 0);
        c.due("cost 0", x.cost(0, 1), 0);
        c.due("cost 99", x.cost(1, 1), 99);
        c.due("late 3", x.late(0, 1), 3);
        c.due("late 0", x.late(1, 1), 0);
    }

    /** "IllegalStateException: an HOUR was run". */
    private static void stationBehindAnHour() {
        PumpCrossing none = Twins.begun();
        none.run(0);
        c.due("no hour was run", none.station(42, 80, 3), 2);
        twins.refused("an hour was run", STATE, () -> ranAnHour(Twins.begun()), x -> x.station(42, 80, 3));
        twins.refused("all hours were run", STATE, Twins::full, x -> x.station(42, 80, 3));
        PumpCrossing back = Twins.begun();
        back.image(2);
        back.run(1);
        back.restore(2);
        c.due("none was run in the image", back.station(42, 80, 3), 2);
    }

    private static PumpCrossing ranAnHour(PumpCrossing x) {
        x.run(1);
        return x;
    }

    private static PumpCrossing toldARow(PumpCrossing x) {
        x.told(1, 2, 3, 4);
        return x;
    }

    /** "or a row of TOLD BOARDS is there". */
    private static void stationBehindATold() {
        twins.refused("a row is there", STATE, () -> toldARow(Twins.begun()), x -> x.station(42, 80, 3));
        PumpCrossing wrong = Twins.begun();
        c.dueThrow("a row that is refused", ARGUMENT, () -> wrong.told(100, 1, 1, 1));
        c.due("no row is there", wrong.station(42, 80, 3), 2);
    }

    /** "Of several throws of a call that one comes that is told first", and ahead of an answer NONE. */
    private static void stationThrowsInOrder() {
        twins.refused("an hour and a number", STATE, () -> ranAnHour(Twins.begun()), x -> x.station(100, 80, 3));
        twins.refused("a row and a number", STATE, () -> toldARow(Twins.begun()), x -> x.station(1, -1, 3));
        twins.refused("an hour, and four there", STATE, () -> ranAnHour(fourThere()), x -> x.station(1, 1, 3));
    }

    // ---- Promise 3

    private static PumpCrossing sixThere() {
        PumpCrossing x = Twins.running();
        for (int k = 2; k < 6; k++) {
            x.driver(k, k % 2, 3, k);
        }
        return x;
    }

    /** "DRIVERS, at most 6 kinds, numbered as they come"; "its number; NONE if there are 6". */
    private static void sixKinds() {
        PumpCrossing x = new PumpCrossing();
        x.station(40, 60, 0);
        for (int k = 0; k < 6; k++) {
            c.due("kind " + k, x.driver(1 + k, 0, 1, 0), k);
            c.due("kinds", x.count(1), k + 1);
        }
        x.run(1);
        c.due("all six fill", x.of(0, 1), 1 + 2 + 3 + 4 + 5 + 6);
        twins.unmoved("a seventh", -1, StationsEdgesTest::sixThere, y -> y.driver(9, 0, 3, 1));
        twins.refused("a seventh with a wrong number", ARGUMENT, StationsEdgesTest::sixThere, y -> y.driver(0, 0, 3, 1));
        twins.refused("a seventh without a station", ELEMENT, StationsEdgesTest::sixThere, y -> y.driver(1, 2, 3, 1));
        twins.unmoved("a seventh of all", -1, Twins::full, y -> y.driver(9, 0, 3, 1));
    }

    /** "MANY (1 to 99) each HOUR", "a DETOUR (0 to 20)"; "IllegalArgumentException: a number". */
    private static void driversNumbers() {
        twins.bounds("MANY", ARGUMENT, Twins::running, 1, 99, (x, v) -> x.driver(v, 0, 3, 2));
        twins.bounds("DETOUR", ARGUMENT, Twins::running, 0, 20, (x, v) -> x.driver(9, 0, 3, v));
        PumpCrossing x = new PumpCrossing();
        x.station(40, 60, 0);
        x.station(40, 60, 0);
        x.driver(1, 0, 0, 0);
        x.driver(99, 1, 0, 20);
        x.run(1);
        c.due("one", x.of(0, 1), 1);
        c.due("ninety nine", x.of(1, 1), 99);
    }

    /** "a HABIT (a STATION)"; "NoSuchElementException: no such STATION (as everywhere)". */
    private static void driversHabit() {
        twins.bounds("HABIT", ELEMENT, Twins::running, 0, 1, (x, v) -> x.driver(9, v, 3, 2));
        twins.bounds("HABIT of four", ELEMENT, StationsEdgesTest::fourThere, 0, 3, (x, v) -> x.driver(9, v, 3, 2));
        twins.refused("HABIT of none", ELEMENT, PumpCrossing::new, x -> x.driver(9, 0, 0, 2));
    }

    /** "a set of STATIONS that they KNOW"; "the set has others than STATIONS". */
    private static void driversSet() {
        twins.bounds("KNOW of two", ARGUMENT, Twins::running, 0, 3, (x, v) -> x.driver(9, 0, v, 2));
        twins.bounds("KNOW of four", ARGUMENT, StationsEdgesTest::fourThere, 0, 15, (x, v) -> x.driver(9, 0, v, 2));
        for (int bit = 2; bit < 32; bit++) {
            int set = 1 | 1 << bit;
            twins.refused("KNOW has " + bit, ARGUMENT, Twins::begun, x -> x.driver(9, 0, set, 2));
        }
        PumpCrossing x = Twins.begun();
        c.dueThrow("a station to come", ARGUMENT, () -> x.driver(9, 0, 4, 2));
        x.station(40, 50, 0);
        c.due("it came", x.driver(9, 0, 4, 2), 2);
        c.due("and is known", x.fills(2), 2);
    }

    /** "Of several throws of a call that one comes that is told first". */
    private static void driverThrowsInOrder() {
        twins.refused("HABIT and MANY", ELEMENT, Twins::running, x -> x.driver(0, 2, 3, 2));
        twins.refused("HABIT and KNOW", ELEMENT, Twins::running, x -> x.driver(9, -1, 4, 2));
        twins.refused("HABIT and DETOUR", ELEMENT, Twins::running, x -> x.driver(9, 2, 3, 21));
    }

    /** "of like ones at HABIT, then at the least". */
    private static void fillsAtLikeOnes() {
        PumpCrossing x = new PumpCrossing();
        x.station(40, 60, 0);
        x.station(40, 55, 0);
        x.station(40, 55, 0);
        x.station(40, 60, 0);
        x.driver(1, 3, 1, 0);
        x.driver(1, 3, 6, 0);
        x.driver(1, 3, 4, 0);
        x.driver(1, 2, 3, 0);
        c.due("as dear as at its habit", x.fills(0), 3);
        c.due("two like ones: the least", x.fills(1), 1);
        c.due("the least isn't known", x.fills(2), 2);
        c.due("the least is as dear as its habit", x.fills(3), 2);
    }

    /** "at HABIT its PRICE, at each other STATION that is KNOWN its PRICE and DETOUR". */
    private static void fillsByDetour() {
        PumpCrossing x = new PumpCrossing();
        x.station(40, 70, 0);
        x.station(40, 50, 0);
        x.driver(1, 0, 2, 19);
        x.driver(1, 0, 2, 20);
        x.driver(1, 1, 3, 20);
        x.driver(1, 0, 1, 0);
        c.due("cheaper by one", x.fills(0), 1);
        c.due("alike", x.fills(1), 0);
        c.due("no detour to its habit", x.fills(2), 1);
        c.due("isn't known", x.fills(3), 0);
        PumpCrossing y = new PumpCrossing();
        y.station(40, 60, 0);
        y.station(40, 50, 0);
        y.station(40, 49, 0);
        y.driver(1, 0, 6, 2);
        c.due("two detours, the second one less dear", y.fills(0), 2);
        PumpCrossing z = new PumpCrossing();
        z.station(40, 10, 0);
        z.station(40, 50, 0);
        z.driver(1, 1, 2, 0);
        c.due("the first station isn't known", z.fills(0), 1);
    }

    // ---- Promise 4

    /** "COST ... (0 to 99 ...)". */
    private static void costsNumbers() {
        twins.bounds("cost", ARGUMENT, Twins::running, 0, 99, (x, v) -> x.cost(1, v));
        PumpCrossing x = Twins.begun();
        c.due("what it was", x.cost(0, 0), 40);
        c.due("0", x.cost(0, 99), 0);
        c.due("99", x.cost(0, 50), 99);
    }

    /** "no such STATION (as everywhere)", told ahead of the number. */
    private static void costOfNoStation() {
        twins.bounds("cost of", ELEMENT, Twins::running, 0, 1, (x, v) -> x.cost(v, 44));
        twins.refused("cost of none", ELEMENT, PumpCrossing::new, x -> x.cost(0, 44));
        twins.refused("no station and a number", ELEMENT, Twins::running, x -> x.cost(2, 100));
    }

    /** "COST of a STATION from now on". */
    private static void costFromNowOn() {
        PumpCrossing x = new PumpCrossing();
        x.station(40, 60, 0);
        x.driver(1, 0, 0, 0);
        x.run(1);
        x.cost(0, 50);
        c.due("not behind", x.of(0, 0), 20);
        x.run(1);
        c.due("ahead", x.of(0, 0), 30);
    }

    /** "changes (by cost() to another number, the latest 10 of all STATIONS)". */
    private static void tenChanges() {
        twins.unmoved("to the same number", 45, Twins::running, x -> x.cost(0, 45));
        PumpCrossing x = new PumpCrossing();
        x.station(40, 60, 0);
        x.station(40, 60, 0);
        x.run(1);
        x.cost(0, 41);
        x.run(1);
        for (int k = 1; k < 10; k++) {
            c.due("changes kept", x.count(9), k);
            x.cost(1, 50 + k);
        }
        c.due("ten are kept", x.count(9), 10);
        c.due("the first of ten is there", x.passed(0, 1, true), true);
        x.cost(1, 59);
        c.due("no eleventh by the same number", x.passed(0, 1, true), true);
        x.cost(1, 60);
        c.due("ten are kept of eleven", x.count(9), 10);
        c.due("the first of eleven is gone", x.passed(0, 1, true), false);
        tenOfTwelveChanges();
    }

    /** Station s has its cost changed by s + 1 upwards in each of three hours; the first two changes are cut off. */
    private static void tenOfTwelveChanges() {
        PumpCrossing x = new PumpCrossing();
        for (int s = 0; s < 4; s++) {
            x.station(10, 10, 0);
            Checks.rules(x, s, "up 1 when hour>1;");
        }
        x.run(1);
        for (int k = 0; k < 3; k++) {
            for (int s = 0; s < 4; s++) {
                x.cost(s, 10 + (k + 1) * (s + 1));
            }
            x.run(1);
        }
        // Prices rose in hours 2 and 3: changes ahead of hours 1, 2, 3 had 0, 1, 1 passed on in their hour.
        long[][] due = {{2, 2}, {2, 4}, {2, 9}, {2, 12}};
        for (int s = 0; s < 4; s++) {
            c.due("passed by " + s, x.passed(s, 1, true), true);
            c.due("upper of " + s, x.upper() * due[s][1], x.lower() * due[s][0]);
        }
    }

    // ---- Promise 5

    /** "LATE (0 to 3)". */
    private static void latesNumbers() {
        twins.bounds("late", ARGUMENT, Twins::running, 0, 3, (x, v) -> x.late(1, v));
        PumpCrossing x = Twins.begun();
        c.due("what it was", x.late(0, 0), 1);
        c.due("0", x.late(0, 3), 0);
        c.due("3", x.late(0, 2), 3);
    }

    /** "no such STATION (as everywhere)", told ahead of the number. */
    private static void lateOfNoStation() {
        twins.bounds("late of", ELEMENT, Twins::running, 0, 1, (x, v) -> x.late(v, 2));
        twins.refused("late of none", ELEMENT, PumpCrossing::new, x -> x.late(0, 2));
        twins.refused("no station and a number", ELEMENT, Twins::running, x -> x.late(2, 4));
    }
}
