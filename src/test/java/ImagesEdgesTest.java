import java.util.List;
import java.util.NoSuchElementException;

/** Promises 37 to 41 (tray, write, image, restore, count): a test for each sentence that names an edge. */
public final class ImagesEdgesTest {
    private static final Class<?> STATE = IllegalStateException.class;
    private static final Class<?> ARGUMENT = IllegalArgumentException.class;
    private static final Class<?> ELEMENT = NoSuchElementException.class;
    private static final Class<?> INDEX = IndexOutOfBoundsException.class;

    private static final Checks c = new Checks();
    private static final Twins twins = new Twins(c);

    public static void main(String[] args) {
        traysNumber();
        sortsOfTrays();
        placesOfTrays();
        trayThrowsInOrder();
        rowsOfNoughts();
        writeToNoTray();
        writeToPlaces();
        writeThrowsInOrder();
        cutTo8();
        cutTo16();
        cutTo32();
        cutTo64();
        imagesNumber();
        restoresNumber();
        noneAtFirst();
        restoreThrowsInOrder();
        allButTheTape();
        allButTheFault();
        allButTheFraction();
        allButTrays();
        imagesOfNothing();
        imagesOfEverything();
        imagesOfFull();
        imagesOfTwoWays();
        imagesAreKept();
        cutOffBoardsComeBack();
        countsAsked();
        c.end();
    }

    private static long tray(PumpCrossing x, int tray, int sort, int many) {
        x.tray(tray, sort, many);
        return 0;
    }

    // ---- Promise 37

    /** "TRAYS 0 to 3"; "NoSuchElementException: no such TRAY". */
    private static void traysNumber() {
        twins.bounds("tray", ELEMENT, Twins::running, 0, 3, (x, v) -> tray(x, v, 1, 5));
    }

    /** "8 bits (sort 0), 16 (1), 32 (2), 64 (3)"; "IllegalArgumentException: no such sort". */
    private static void sortsOfTrays() {
        twins.bounds("sort", ARGUMENT, Twins::running, 0, 3, (x, v) -> tray(x, 0, v, 5));
        twins.bounds("sort of a missing one", ARGUMENT, Twins::running, 0, 3, (x, v) -> tray(x, 3, v, 5));
    }

    /** "rows of 0 to 28 numbers"; "or not so many". */
    private static void placesOfTrays() {
        twins.bounds("many", ARGUMENT, Twins::running, 0, 28, (x, v) -> tray(x, 0, 1, v));
        twins.bounds("many of a missing one", ARGUMENT, Twins::running, 0, 28, (x, v) -> tray(x, 3, 1, v));
        PumpCrossing x = new PumpCrossing();
        x.tray(0, 3, 28);
        c.due("the last of 28", x.write(0, 27, 5), 5);
        c.dueThrow("a 29th", INDEX, () -> x.write(0, 28, 5));
        x.tray(0, 3, 0);
        c.dueThrow("the first of none", INDEX, () -> x.write(0, 0, 5));
        c.due("none is not missing", x.story(0, 0), false);
    }

    private static void trayThrowsInOrder() {
        twins.refused("no tray and a sort", ELEMENT, Twins::running, x -> x.tray(4, 4, 5));
        twins.refused("no tray and so many", ELEMENT, Twins::running, x -> x.tray(-1, 0, 29));
    }

    /** "A TRAY is a row of so many 0s", whatever it was. */
    private static void rowsOfNoughts() {
        PumpCrossing x = new PumpCrossing();
        int[] lengths = {28, 3, 28, 0, 28};
        for (int many : lengths) {
            x.tray(1, 1, many);
            if (many > 0) {
                c.due("all 0s of " + many, x.fill(1, 1, 0, -1), 0);
                x.write(1, many - 1, 9);
                x.write(1, 0, 9);
                c.due("those that were written", x.fill(1, 1, 0, -1), 18);
            }
        }
    }

    // ---- Promise 38

    /** "no such TRAY (as below)"; "IllegalStateException: it is MISSING". */
    private static void writeToNoTray() {
        twins.bounds("write to", ELEMENT, Twins::full, 0, 3, (x, v) -> x.write(v, 0, 7));
        twins.refused("write to a missing one", STATE, Twins::running, x -> x.write(3, 0, 7));
    }

    /** "IndexOutOfBoundsException: it has no such place". */
    private static void writeToPlaces() {
        twins.bounds("place of 21", INDEX, Twins::running, 0, 20, (x, v) -> x.write(0, v, 7));
        twins.bounds("place of 3", INDEX, Twins::running, 0, 2, (x, v) -> x.write(1, v, 7));
        twins.bounds("place of 28", INDEX, Twins::full, 0, 27, (x, v) -> x.write(2, v, 7));
        twins.refused("place of none", INDEX, Twins::running, x -> x.write(2, 0, 7));
    }

    private static void writeThrowsInOrder() {
        twins.refused("no tray and no place", ELEMENT, Twins::running, x -> x.write(4, 28, 7));
        twins.refused("a missing one and no place", STATE, Twins::running, x -> x.write(3, -1, 7));
    }

    /** "cut to its sort: as it is there": what is asked and what is there, in pairs. */
    private static void cuts(int sort, long... pairs) {
        PumpCrossing x = new PumpCrossing();
        x.tray(0, sort, 1);
        for (int k = 0; k < pairs.length; k += 2) {
            c.due("sort " + sort + ": " + pairs[k], x.write(0, 0, pairs[k]), pairs[k + 1]);
        }
    }

    private static void cutTo8() {
        cuts(0, 0, 0, -1, -1, 127, 127, 128, -128, -128, -128, -129, 127, 255, -1, 256, 0, 257, 1,
                Long.MAX_VALUE, -1, Long.MIN_VALUE, 0);
        PumpCrossing x = new PumpCrossing();
        x.tray(0, 0, 1);
        x.write(0, 0, 256 + 99);
        c.due("as it is there", x.fill(0, 1, 0, -1), 99);
        x.write(0, 0, 128);
        c.dueThrow("-128 is there", ARGUMENT, () -> x.fill(0, 1, 0, -1));
    }

    private static void cutTo16() {
        cuts(1, 0, 0, -1, -1, 128, 128, 32767, 32767, 32768, -32768, -32768, -32768, -32769, 32767, 65535, -1, 65536, 0,
                Long.MAX_VALUE, -1, Long.MIN_VALUE, 0);
    }

    private static void cutTo32() {
        cuts(2, 0, 0, -1, -1, 32768, 32768, 2147483647L, 2147483647L, 2147483648L, -2147483648L,
                -2147483648L, -2147483648L, -2147483649L, 2147483647L, 4294967295L, -1, 4294967296L, 0,
                Long.MAX_VALUE, -1, Long.MIN_VALUE, 0);
    }

    private static void cutTo64() {
        cuts(3, 0, 0, -1, -1, 2147483648L, 2147483648L, Long.MAX_VALUE, Long.MAX_VALUE, Long.MIN_VALUE, Long.MIN_VALUE);
    }

    // ---- Promises 39, 40

    private static long image(PumpCrossing x, int i) {
        x.image(i);
        return 0;
    }

    private static long restore(PumpCrossing x, int i) {
        x.restore(i);
        return 0;
    }

    /** "IMAGES 0 to 2"; "NoSuchElementException: no such one". */
    private static void imagesNumber() {
        twins.bounds("image", ELEMENT, Twins::running, 0, 2, ImagesEdgesTest::image);
    }

    private static void restoresNumber() {
        twins.bounds("restore", ELEMENT, Twins::full, 0, 2, ImagesEdgesTest::restore);
    }

    /** "(none at first)"; "IllegalStateException: none was made". */
    private static void noneAtFirst() {
        for (int image = 0; image < 3; image++) {
            int i = image;
            twins.refused("none at first: " + i, STATE, PumpCrossing::new, x -> x.restore(i));
        }
        twins.refused("0 and 1 were made", STATE, Twins::running, x -> x.restore(2));
    }

    private static void restoreThrowsInOrder() {
        twins.refused("none was made, and no such one", ELEMENT, PumpCrossing::new, x -> x.restore(3));
        twins.refused("none was made, and no such one", ELEMENT, PumpCrossing::new, x -> x.restore(-1));
    }

    /** "all but the tape". */
    private static void allButTheTape() {
        PumpCrossing x = new PumpCrossing();
        x.station(40, 60, 0);
        Checks.feed(x, "to 9;");
        x.image(0);
        Checks.feed(x, "to 8;");
        x.restore(0);
        c.due("both are on it", x.count(8), 40);
        c.due("both are read", x.rules(0, 25), 2);
        x.restore(0);
        c.due("it stays empty", x.count(8), 0);
    }

    /** "all but ... the FAULT". */
    private static void allButTheFault() {
        PumpCrossing x = new PumpCrossing();
        Checks.law(x, "told;?");
        x.image(0);
        Checks.law(x, "at 24;");
        x.image(1);
        x.restore(0);
        c.due("the latest", x.fault(0), 3);
        c.due("its place", x.fault(1), 3);
        x.law(0);
        x.restore(1);
        c.due("none", x.fault(0), 0);
        c.due("no place", x.fault(1), -1);
    }

    /** "all but ... the FRACTION". */
    private static void allButTheFraction() {
        PumpCrossing x = new PumpCrossing();
        x.image(0);
        x.odds();
        x.restore(0);
        c.due("upper", x.upper(), 1);
        c.due("lower", x.lower(), 1);
    }

    /** "all but ... TRAYS". */
    private static void allButTrays() {
        PumpCrossing x = new PumpCrossing();
        x.tray(0, 1, 2);
        x.write(0, 0, 7);
        x.image(0);
        x.write(0, 1, 5);
        x.tray(1, 0, 1);
        x.restore(0);
        c.due("as written behind it", x.fill(0, 1, 0, -1), 12);
        c.due("no longer missing", x.write(1, 0, 300), 44);
    }

    /** An IMAGE of a new object: nothing is told again. */
    private static void imagesOfNothing() {
        PumpCrossing x = new PumpCrossing();
        x.image(2);
        for (int s = 0; s < 4; s++) {
            x.station(40 + s, 60 + s, s);
            Checks.rules(x, s, "up 1;");
        }
        Checks.law(x, "cap 1;");
        x.driver(9, 3, 15, 0);
        x.level(50);
        x.rise(1, 2, 3);
        x.told(1, 2, 3, 4);
        x.cost(3, 9);
        x.run(300);
        x.restore(2);
        for (int what = 0; what < 10; what++) {
            c.due("count " + what, x.count(what), 0);
        }
        c.dueThrow("no station", ELEMENT, () -> x.price(0));
        c.due("a station", x.station(1, 50, 0), 0);
        c.due("without rules", x.would(0), 50);
        c.due("never changed", x.of(0, 2), 1);
        c.due("without profit", x.of(0, 0), 0);
        Checks.rules(x, 0, "up 9;");
        c.due("without a law", x.would(0), 59);
    }

    /** "All is as in an IMAGE": the answers of an object that never went on. */
    private static void imagesOfEverything() {
        for (int i = 0; i < 3; i++) {
            PumpCrossing x = Twins.running();
            x.image(i);
            x.run(300);
            Checks.tray(x, 3, 0, 9);
            x.cost(0, 1);
            x.cost(1, 2);
            x.late(0, 3);
            x.driver(9, 1, 3, 0);
            x.level(99);
            x.rise(1, 2, 3);
            x.told(9, 9, 0, 0);
            x.story(1, 0);
            x.image((i + 1) % 3);
            x.restore(i);
            PumpCrossing twin = Twins.running();
            Checks.tray(twin, 3, 0, 9);
            twin.image(i);
            List<String> got = Twins.answers(x);
            List<String> want = Twins.answers(twin);
            // What is asked of images comes last and isn't compared: the others differ.
            for (int k = 0; k < want.size() - 45; k++) {
                c.due("image " + i + ": " + got.get(k) + ", due " + want.get(k), got.get(k).equals(want.get(k)), true);
            }
        }
    }

    /** As much as there may be of everything comes back, and full is full again. */
    private static void imagesOfFull() {
        PumpCrossing x = Twins.full();
        x.restore(0);
        c.due("no hour", x.count(2), 0);
        c.due("no row", x.count(6), 0);
        x.restore(2);
        long[] counts = {4, 6, 3000, 256, 8, 6, 60};
        for (int what = 0; what < counts.length; what++) {
            c.due("full again: count " + what, x.count(what), counts[what]);
        }
        c.due("full again: changes", x.count(9), 10);
        c.due("no hour more", x.run(1), 0);
        c.due("no kind more", x.driver(1, 0, 0, 0), -1);
        c.due("no level more", x.level(99), -1);
        c.due("no rise more", x.rise(0, 0, 0), -1);
        c.due("no row more", x.told(1, 1, 1, 1), -1);
    }

    /** From a new object two ways are gone; the first comes back whole, whatever was told on the second. */
    private static void imagesOfTwoWays() {
        PumpCrossing x = new PumpCrossing();
        x.image(2);
        goFirstWay(x);
        x.image(0);
        x.restore(2);
        goSecondWay(x);
        x.image(1);
        for (int way = 0; way < 2; way++) {
            x.restore(way);
            PumpCrossing twin = new PumpCrossing();
            if (way == 0) {
                goFirstWay(twin);
            } else {
                goSecondWay(twin);
            }
            List<String> got = wayAnswers(x);
            List<String> want = wayAnswers(twin);
            c.due("way " + way + ": " + got + ", due " + want, got.equals(want), true);
        }
    }

    private static void goFirstWay(PumpCrossing x) {
        x.station(40, 60, 3);
        x.station(30, 70, 2);
        x.driver(3, 0, 3, 2);
        x.driver(4, 1, 1, 9);
        Checks.rules(x, 0, "match;");
        Checks.rules(x, 1, "up 1 when hour=1;up 3;");
        Checks.law(x, "cap 90;");
        x.level(50);
        x.level(60);
        x.rise(3, 4, -1);
        Checks.tray(x, 0, 0, 0, 1, 2, 3, 4, 5, 6, 7, 8, 9, 0, 1, 2, 3, 4, 5, 6, 7, 8, 9, 0);
        Checks.tray(x, 1, 0, 9, 8, 7, 6, 5, 4, 3, 2, 1, 9, 8, 7, 6, 5, 4, 3, 2, 1, 9, 8, 7);
        x.story(0, 0);
        x.story(1, 1);
        x.told(60, 70, 0, 0);
        x.told(70, 71, 0, 0);
        x.run(1);
        x.cost(1, 33);
        x.run(2);
    }

    private static void goSecondWay(PumpCrossing x) {
        x.station(10, 20, 0);
        x.station(11, 21, 1);
        x.driver(9, 1, 0, 0);
        x.driver(8, 0, 2, 1);
        Checks.rules(x, 0, "up 5;");
        Checks.rules(x, 1, "to 9;");
        Checks.law(x, "told;cap 7;");
        x.level(11);
        x.level(15);
        x.rise(7, 9, -1);
        Checks.tray(x, 0, 0, 9, 8, 7, 6, 5, 4, 3, 2, 1, 9, 8, 7, 6, 5, 4, 3, 2, 1, 9, 8, 7);
        Checks.tray(x, 1, 0, 0, 1, 2, 3, 4, 5, 6, 7, 8, 9, 0, 1, 2, 3, 4, 5, 6, 7, 8, 9, 0);
        x.story(0, 0);
        x.story(1, 1);
        x.told(20, 21, 0, 0);
        x.told(25, 9, 0, 0);
        x.run(2);
        x.cost(0, 44);
        x.run(1);
    }

    private static List<String> wayAnswers(PumpCrossing x) {
        // Of all answers those of trays, the tape and the images are left out, which no image keeps.
        List<String> all = Twins.answers(x);
        all.removeIf(a -> a.contains("tray") || a.startsWith("write") || a.startsWith("image") || a.contains("restore")
                || a.startsWith("fault") || a.startsWith("upper") || a.startsWith("lower") || a.contains("tape"));
        return all;
    }

    /** "as it was": what goes on behind image() or restore() isn't the IMAGE's. */
    private static void imagesAreKept() {
        PumpCrossing x = new PumpCrossing();
        x.station(40, 50, 0);
        Checks.rules(x, 0, "up 1;");
        x.image(0);
        for (int k = 0; k < 5; k++) {
            x.run(k);
            x.cost(0, k);
            x.level(k);
            x.told(k, 0, 0, 0);
            Checks.rules(x, 0, "down 1;");
            x.restore(0);
            c.due("price", x.price(0), 50);
            c.due("would", x.would(0), 51);
            c.due("levels", x.count(4), 0);
            c.due("rows", x.count(6), 0);
            c.due("changes", x.count(9), 0);
        }
        x.run(7);
        x.image(0);
        x.restore(0);
        c.due("the latest image of that number", x.price(0), 57);
    }

    /** BOARDS that were cut off since are there again. */
    private static void cutOffBoardsComeBack() {
        PumpCrossing x = new PumpCrossing();
        x.station(40, 0, 0);
        Checks.rules(x, 0, "up 1 when own<99;to 0;");
        x.run(256);
        x.image(0);
        x.run(300);
        c.dueThrow("cut off", ELEMENT, () -> x.board(0, 255));
        x.restore(0);
        c.due("the first", x.board(0, 0), 1);
        c.due("the last", x.board(0, 255), 56);
        c.dueThrow("to come", ELEMENT, () -> x.board(0, 256));
        c.due("round", x.round(), 100);
    }

    // ---- Promise 41

    /** "0 STATIONS, .. 9 changes of COST kept; NONE for others". */
    private static void countsAsked() {
        PumpCrossing x = Twins.full();
        long[] counts = {4, 6, 3000, 256, 8, 6, 60, -2, 400, 10};
        for (int what = 0; what < counts.length; what++) {
            if (what != 7) {
                c.due("count " + what, x.count(what), counts[what]);
            }
        }
        c.due("paid", x.count(7) > 0, true);
        int[] others = {-1, 10, Integer.MIN_VALUE, Integer.MAX_VALUE};
        for (int what : others) {
            twins.unmoved("others: " + what, -1, Twins::full, y -> y.count(what));
        }
    }
}
