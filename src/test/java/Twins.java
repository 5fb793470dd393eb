import java.util.ArrayList;
import java.util.List;
import java.util.function.Consumer;
import java.util.function.LongSupplier;
import java.util.function.Supplier;
import java.util.function.ToLongFunction;

/**
 * Sees that a refused call changes nothing: of two objects made by the same calls one gets the refused call, and then
 * both are asked all that can be asked. Making and asking together stay within the 512 calls of an object.
 */
final class Twins {
    /** A call with one number in it. */
    interface Call {
        long of(PumpCrossing x, int v);
    }

    static final int MOST_QUESTIONS = 300;

    private final Checks c;

    Twins(Checks c) {
        this.c = c;
    }

    /** The call throws that very exception, and nothing changes. */
    void refused(String what, Class<?> want, Supplier<PumpCrossing> build, Consumer<PumpCrossing> call) {
        PumpCrossing x = build.get();
        c.dueThrow(what, want, () -> call.accept(x));
        same(what, x, build.get());
    }

    /** The call answers that, and nothing changes. */
    void unmoved(String what, long want, Supplier<PumpCrossing> build, ToLongFunction<PumpCrossing> call) {
        PumpCrossing x = build.get();
        c.due(what, call.applyAsLong(x), want);
        same(what, x, build.get());
    }

    /** The least and the most are taken; the first ones outside, and those far outside, are refused. */
    void bounds(String what, Class<?> want, Supplier<PumpCrossing> build, int least, int most, Call call) {
        int[] inside = {least, most};
        for (int v : inside) {
            PumpCrossing x = build.get();
            c.dueThrow(what + " " + v, null, () -> call.of(x, v));
        }
        int[] outside = {least - 1, most + 1, Integer.MIN_VALUE, Integer.MAX_VALUE};
        for (int v : outside) {
            refused(what + " " + v, want, build, x -> call.of(x, v));
        }
    }

    private void same(String what, PumpCrossing x, PumpCrossing twin) {
        List<String> got = answers(x);
        List<String> want = answers(twin);
        c.due(what + ": questions within their bound", got.size() <= MOST_QUESTIONS, true);
        for (int k = 0; k < want.size(); k++) {
            c.due(what + " changed something: " + got.get(k) + ", without it " + want.get(k),
                    got.get(k).equals(want.get(k)), true);
        }
    }

    // ---- objects to begin with

    /** Something of everything, but no hour and no told row, so that a station may still come. */
    static PumpCrossing begun() {
        PumpCrossing x = new PumpCrossing();
        x.station(40, 60, 1);
        x.station(41, 70, 0);
        x.driver(3, 0, 3, 2);
        x.driver(5, 1, 1, 0);
        Checks.rules(x, 0, "up 1 when hour<20;down 9;");
        Checks.rules(x, 1, "match when rose>0;");
        Checks.law(x, "cap 5;once 1;");
        addRest(x);
        return x;
    }

    /** Something of everything. */
    static PumpCrossing running() {
        PumpCrossing x = begun();
        x.run(30);
        x.cost(0, 45);
        x.cost(1, 35);
        x.run(30);
        x.told(60, 70, 0, 0);
        x.told(61, 70, 0, 0);
        x.told(62, 61, 0, 0);
        x.image(1);
        x.passed(0, 3, true);
        return x;
    }

    /** Levels, rises, stories, trays (the last is missing), an image, a fraction, a fault and a tape. */
    private static void addRest(PumpCrossing x) {
        x.level(50);
        x.level(60);
        x.level(72);
        x.rise(0, 5, -1);
        x.rise(20, -1, -1);
        Checks.tray(x, 0, 0, 3, 2, 2, 2, 2, 5, 2, 2, 2, 2, 2, 2, 2, 2, 2, 2, 2, 2, 2, 2, 7);
        x.story(0, 0);
        Checks.tray(x, 1, 1, 5, 1, 9);
        x.tray(2, 3, 0);
        x.image(0);
        x.odds();
        Checks.rules(x, 0, "up 1 when 5;");
        Checks.feed(x, "to 44 when own<60; ; ");
    }

    /** As much as there may be of stations, kinds, levels, rises, told rows, changes, hours, bytes and images. */
    static PumpCrossing full() {
        PumpCrossing x = new PumpCrossing();
        for (int s = 0; s < 4; s++) {
            x.station(40 + s, 60 + s, s);
        }
        for (int k = 0; k < 6; k++) {
            x.driver(9 + k, k % 4, 15, k);
        }
        for (int k = 0; k < 8; k++) {
            x.level(50 + k);
        }
        for (int k = 0; k < 6; k++) {
            x.rise(k, k + 1, k + 2);
        }
        Checks.rules(x, 0, "up 5 when own<50;down 1;");
        x.image(0);
        x.image(1);
        x.run(300);
        for (int k = 0; k < 60; k++) {
            x.told(60 - k, 61, 62, 63);
        }
        for (int k = 0; k < 11; k++) {
            x.cost(k % 4, 30 + k);
        }
        for (int k = 0; k < 9; k++) {
            x.run(300);
        }
        for (int k = 0; k < 20; k++) {
            Checks.feed(x, "keep when own<60; ; ");
        }
        for (int k = 0; k < 4; k++) {
            x.tray(k, k, 28);
        }
        x.image(2);
        return x;
    }

    // ---- questions

    private static void ask(List<String> all, String what, LongSupplier question) {
        String answer;
        try {
            answer = Long.toString(question.getAsLong());
        } catch (RuntimeException e) {
            answer = e.getClass().getSimpleName();
        }
        all.add(what + " = " + answer);
    }

    /** All that can be asked; those questions that change something come last. */
    static List<String> answers(PumpCrossing x) {
        List<String> all = new ArrayList<>();
        askOfAll(all, x);
        int stations = (int) x.count(0);
        for (int s = 0; s < stations; s++) {
            askOfStation(all, x, s);
        }
        for (int kind = 0; kind < 6; kind++) {
            int k = kind;
            ask(all, "fills " + k, () -> x.fills(k));
        }
        askOfGames(all, x);
        askOfTape(all, x);
        for (int s = 0; s < stations; s++) {
            askPassed(all, x, s);
        }
        for (int tray = 0; tray < 4; tray++) {
            askOfTray(all, x, tray);
        }
        askByChanging(all, x, stations);
        for (int image = 0; image < 3; image++) {
            askOfImage(all, x, image);
        }
        return all;
    }

    private static void askOfAll(List<String> all, PumpCrossing x) {
        for (int what = 0; what < 10; what++) {
            int w = what;
            ask(all, "count " + w, () -> x.count(w));
        }
        ask(all, "fault 0", () -> x.fault(0));
        ask(all, "fault 1", () -> x.fault(1));
        ask(all, "upper", x::upper);
        ask(all, "lower", x::lower);
        ask(all, "round", x::round);
        ask(all, "odds", () -> odds(x));
    }

    /** The fraction in one number. */
    private static long odds(PumpCrossing x) {
        x.odds();
        return 1000003 * x.upper() + x.lower();
    }

    private static void askOfStation(List<String> all, PumpCrossing x, int s) {
        ask(all, "price " + s, () -> x.price(s));
        ask(all, "would " + s, () -> x.would(s));
        for (int what = 0; what < 3; what++) {
            int w = what;
            ask(all, "of " + s + " " + w, () -> x.of(s, w));
        }
        ask(all, "leads " + s, () -> x.leads(s, false));
        ask(all, "followed " + s, () -> x.leads(s, true));
        ask(all, "fit " + s, () -> x.fit(s));
        int run = (int) x.count(2);
        int[] hours = {0, run - 257, run - 256, run - 2, run - 1, run};
        for (int t : hours) {
            ask(all, "board " + s + " " + t, () -> x.board(s, t));
        }
    }

    private static void askOfGames(List<String> all, PumpCrossing x) {
        for (int level = 0; level < 8; level++) {
            int l = level;
            ask(all, "gain of a at " + l, () -> x.gain(0, 1, l, 0, false));
            ask(all, "gain of b at " + l, () -> x.gain(0, 1, 0, l, true));
        }
        ask(all, "joint", () -> x.joint(0, 1));
        ask(all, "even", () -> x.even(0, 1, -1));
        ask(all, "gains", () -> x.gains(0, 1, 0, 5, false));
        ask(all, "learn", () -> x.learn(0, 1, 20, 3));
    }

    private static void askOfTape(List<String> all, PumpCrossing x) {
        ask(all, "rules of the tape", () -> x.rules(0, (int) x.count(8)));
        ask(all, "its fault", () -> x.fault(0));
        ask(all, "its place", () -> x.fault(1));
        ask(all, "would by it", () -> x.would(0));
    }

    private static void askPassed(List<String> all, PumpCrossing x, int s) {
        int[] hours = {1, 3};
        for (int n : hours) {
            ask(all, "passed up " + s, () -> x.passed(s, n, true) ? 1000003 * x.upper() + x.lower() : -1);
            ask(all, "passed down " + s, () -> x.passed(s, n, false) ? 1000003 * x.upper() + x.lower() : -1);
        }
    }

    private static void askOfTray(List<String> all, PumpCrossing x, int t) {
        ask(all, "least of tray " + t, () -> x.fill(t, 12, 0, -1));
        ask(all, "sum of tray " + t, () -> x.fill(t, 1, 0, -1));
        ask(all, "story of tray " + t, () -> x.story(1, t) ? odds(x) : -1);
        int[] places = {0, 2, 20, 27};
        for (int place : places) {
            ask(all, "write " + t + " " + place, () -> x.write(t, place, 0x7fee_ddcc_bbaa_9988L));
        }
    }

    private static void askByChanging(List<String> all, PumpCrossing x, int stations) {
        ask(all, "run 1", () -> x.run(1));
        for (int station = 0; station < stations; station++) {
            int s = station;
            ask(all, "sold of " + s, () -> x.of(s, 1));
            ask(all, "cost of " + s, () -> x.cost(s, 0));
            ask(all, "late of " + s, () -> x.late(s, 0));
            ask(all, "would at once " + s, () -> x.would(s));
        }
    }

    private static void askOfImage(List<String> all, PumpCrossing x, int i) {
        ask(all, "restore " + i, () -> {
            x.restore(i);
            return 0;
        });
        for (int what = 0; what < 10; what++) {
            int w = what;
            ask(all, "image " + i + ", count " + w, () -> x.count(w));
        }
        for (int station = 0; station < 2; station++) {
            int s = station;
            ask(all, "image " + i + ", price " + s, () -> x.price(s));
            ask(all, "image " + i + ", would " + s, () -> x.would(s));
        }
    }
}
