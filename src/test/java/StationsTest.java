import java.util.NoSuchElementException;

/** Promises 1 to 5: a new object, station, driver, cost, late. */
public final class StationsTest {
    private static final Checks c = new Checks();

    public static void main(String[] args) {
        newObject();
        stations();
        stationsBehindBoards();
        drivers();
        driversWrong();
        costs();
        lates();
        c.end();
    }

    private static void newObject() {
        PumpCrossing x = new PumpCrossing();
        for (int what = 0; what <= 9; what++) {
            c.due("new: count " + what, x.count(what), 0);
        }
        c.due("new: upper", x.upper(), 0);
        c.due("new: lower", x.lower(), 0);
        c.due("new: fault", x.fault(0), 0);
        c.due("new: place", x.fault(1), -1);
        c.due("new: round", x.round(), -1);
        for (int tray = 0; tray < 4; tray++) {
            int t = tray;
            c.dueThrow("new: tray " + t, IllegalStateException.class, () -> x.write(t, 0, 1));
        }
        for (int image = 0; image < 3; image++) {
            int i = image;
            c.dueThrow("new: image " + i, IllegalStateException.class, () -> x.restore(i));
        }
        c.dueThrow("new: price", NoSuchElementException.class, () -> x.price(0));
        c.due("NONE", PumpCrossing.NONE, -1);
    }

    private static void stations() {
        PumpCrossing x = new PumpCrossing();
        int[][] wrong = {{-1, 0, 0}, {100, 0, 0}, {0, -1, 0}, {0, 100, 0}, {0, 0, -1}, {0, 0, 4}};
        for (int[] w : wrong) {
            c.dueThrow("station, wrong", IllegalArgumentException.class, () -> x.station(w[0], w[1], w[2]));
        }
        c.due("wrong ones are no stations", x.count(0), 0);
        c.due("first", x.station(0, 99, 3), 0);
        c.due("second", x.station(99, 0, 0), 1);
        c.due("third", x.station(1, 2, 1), 2);
        c.due("fourth", x.station(1, 3, 2), 3);
        c.due("fifth", x.station(1, 4, 0), -1);
        c.dueThrow("fifth, wrong", IllegalArgumentException.class, () -> x.station(1, 4, 4));
        c.due("how many", x.count(0), 4);
        c.due("price of 0", x.price(0), 99);
        c.due("price of 3", x.price(3), 3);
    }

    private static void stationsBehindBoards() {
        PumpCrossing x = new PumpCrossing();
        x.run(0);
        c.due("no hour was run", x.station(1, 1, 0), 0);
        x.image(0);
        x.run(1);
        c.dueThrow("an hour was run", IllegalStateException.class, () -> x.station(1, 1, 0));
        c.dueThrow("that is told first", IllegalStateException.class, () -> x.station(100, 1, 0));
        x.restore(0);
        c.due("as if none was run", x.station(1, 1, 0), 1);
        x.told(1, 1, 0, 0);
        c.dueThrow("a row is there", IllegalStateException.class, () -> x.station(1, 1, 0));
        PumpCrossing bare = new PumpCrossing();
        c.due("hours without stations", bare.run(2), 2);
        c.dueThrow("run without stations", IllegalStateException.class, () -> bare.station(1, 1, 0));
    }

    private static void drivers() {
        PumpCrossing x = new PumpCrossing();
        x.station(10, 50, 0);
        x.station(10, 45, 0);
        x.station(10, 45, 0);
        c.due("knows none", x.driver(1, 0, 0, 0), 0);
        c.due("detour as dear", x.driver(99, 0, 7, 5), 1);
        c.due("detour less dear", x.driver(1, 0, 7, 4), 2);
        c.due("knows the last", x.driver(1, 0, 4, 0), 3);
        c.due("habit of like ones", x.driver(1, 2, 3, 0), 4);
        c.due("habit isn't known", x.driver(1, 1, 5, 20), 5);
        c.due("a seventh", x.driver(1, 0, 0, 0), -1);
        int[] places = {0, 0, 1, 2, 2, 1};
        for (int kind = 0; kind < 6; kind++) {
            c.due("place of kind " + kind, x.fills(kind), places[kind]);
        }
        c.due("how many", x.count(1), 6);
        c.dueThrow("a seventh, wrong", IllegalArgumentException.class, () -> x.driver(0, 0, 0, 0));
    }

    private static void driversWrong() {
        PumpCrossing x = new PumpCrossing();
        c.dueThrow("no station", NoSuchElementException.class, () -> x.driver(1, 0, 0, 0));
        x.station(10, 50, 0);
        x.station(10, 50, 0);
        c.dueThrow("no such habit", NoSuchElementException.class, () -> x.driver(0, 2, 9, 99));
        c.dueThrow("habit -1", NoSuchElementException.class, () -> x.driver(1, -1, 0, 0));
        int[][] wrong = {{0, 0, 0, 0}, {100, 0, 0, 0}, {1, 0, 4, 0}, {1, 0, -1, 0}, {1, 0, 0, -1}, {1, 0, 0, 21}};
        for (int[] w : wrong) {
            c.dueThrow("driver, wrong", IllegalArgumentException.class, () -> x.driver(w[0], w[1], w[2], w[3]));
        }
        c.due("nothing came of them", x.count(1), 0);
        c.due("edges", x.driver(99, 1, 3, 20), 0);
    }

    private static void costs() {
        PumpCrossing x = new PumpCrossing();
        c.dueThrow("no station", NoSuchElementException.class, () -> x.cost(0, 100));
        x.station(40, 60, 0);
        x.driver(3, 0, 0, 0);
        c.due("what it was", x.cost(0, 45), 40);
        c.due("what it was then", x.cost(0, 45), 45);
        c.due("changes", x.count(9), 1);
        x.run(1);
        c.due("profit by the new one", x.of(0, 0), 45);
        c.dueThrow("cost 100", IllegalArgumentException.class, () -> x.cost(0, 100));
        c.dueThrow("cost -1", IllegalArgumentException.class, () -> x.cost(0, -1));
        c.due("edge", x.cost(0, 99), 45);
        c.due("edge", x.cost(0, 0), 99);
        for (int k = 1; k < 20; k++) {
            x.cost(0, k);
        }
        c.due("ten changes are kept", x.count(9), 10);
    }

    private static void lates() {
        PumpCrossing x = new PumpCrossing();
        c.dueThrow("no station", NoSuchElementException.class, () -> x.late(0, 9));
        x.station(40, 60, 2);
        x.station(40, 60, 0);
        c.due("what it was", x.late(0, 3), 2);
        c.dueThrow("late 4", IllegalArgumentException.class, () -> x.late(0, 4));
        c.dueThrow("late -1", IllegalArgumentException.class, () -> x.late(0, -1));
        c.due("what it was then", x.late(0, 1), 3);
        Checks.rules(x, 0, "match;");
        Checks.rules(x, 1, "up 1;");
        x.run(3);
        c.due("one late", x.price(0), 61);
        x.late(0, 0);
        c.due("at once", x.would(0), 63);
    }
}
