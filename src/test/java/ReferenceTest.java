import java.util.ArrayList;
import java.util.List;
import java.util.Random;
import java.util.function.LongSupplier;

/** Sets the class beside Naive in many runs of calls, with ordinary and wrong numbers and texts. */
public final class ReferenceTest {
    private static final String[] TERMS = {"own", "least", "most", "cost", "hour", "day", "since", "rose", "fell"};
    private static final String[] ALL_WORDS = {"up", "down", "to", "below", "match", "keep", "when", "or", "and", "not",
        "own", "least", "since", "once", "at", "cap", "told", "cost", ";", "<", "=", ">", "+", "-", "0", "7", "24",
        "99", "100", "Up", "\u00e9", "ups", "\t", "12", "5"};

    /** Rules by which prices go round, follow one another and follow costs. */
    private static final String[] KNOWN_WAYS = {"to 90 when own<cost+3;below 1;", "below 1 when least>cost+2;to 80;",
        "match when rose>0;", "up 9 when hour=7;down 1 when own>cost;", "up 5 when since>12 and not fell>0;",
        "up 3 when cost+10>own;down 2 when own>cost+15;", "match when least>cost and since>2;keep;",
        "up 7 when hour=3 or hour=15;match when rose>0;down 1 when own>cost+9;", "to 70 when day=1;to 60;",
        "up 4 when hour=6;down 4 when hour=7;", "match when since>3;"};

    private final Random random;
    private PumpCrossing x = new PumpCrossing();
    private Naive y = new Naive();
    private final List<String> log = new ArrayList<>();

    private ReferenceTest(long seed) {
        random = new Random(seed);
    }

    public static void main(String[] args) {
        int runs = args.length > 0 ? Integer.parseInt(args[0]) : 700;
        long first = args.length > 1 ? Long.parseLong(args[1]) : 0;
        for (long seed = first; seed < first + runs; seed++) {
            new ReferenceTest(seed).runOne(seed);
        }
    }

    private void runOne(long seed) {
        boolean wild = seed % 5 == 4;
        if (!wild) {
            begin();
        }
        while (log.size() < 480) {
            step(wild || random.nextInt(12) == 0);
            if (seed % 3 == 0 && random.nextInt(4) == 0) {
                hoursAndCosts();
            }
        }
    }

    /** Costs that change between hours, for boards to have something to pass on. */
    private void hoursAndCosts() {
        int s = r(stations()), v = 40 + r(15), n = 1 + r(8), hours = r(9) == 0 ? 300 : r(9);
        boolean up = r(2) == 0;
        same("cost " + s + " " + v, () -> x.cost(s, v), () -> y.cost(s, v));
        same("run " + hours, () -> x.run(hours), () -> y.run(hours));
        same("passed " + s + " " + n + " " + up, () -> x.passed(s, n, up) ? 1 : 0, () -> y.passed(s, n, up));
        sameFraction();
        same("leads " + s + " " + up, () -> x.leads(s, up), () -> y.leads(s, up));
        same("round", () -> x.round(), () -> y.round());
    }

    private int r(int most) {
        return random.nextInt(most);
    }

    /** A number of 0 to most - 1, or, where it may be wrong, one at or behind the edges. */
    private int n(int most, boolean wrong) {
        if (!wrong || r(3) > 0) {
            return r(most);
        }
        int[] edges = {-1, most, most + 1, -2, Integer.MIN_VALUE, Integer.MAX_VALUE, most - 1, 0, random.nextInt()};
        return edges[r(edges.length)];
    }

    private void same(String call, LongSupplier mine, LongSupplier due) {
        log.add(call);
        String got = outcome(mine);
        String want = outcome(due);
        log.set(log.size() - 1, call + " => " + want);
        if (!got.equals(want)) {
            for (String line : log) {
                System.out.println(line);
            }
            System.out.println(call + " answered " + got + ", due is " + want);
            System.exit(1);
        }
    }

    private static String outcome(LongSupplier call) {
        try {
            return Long.toString(call.getAsLong());
        } catch (RuntimeException e) {
            return "throws " + e.getClass().getSimpleName();
        }
    }

    private void begin() {
        int stations = 1 + r(4);
        for (int k = 0; k < stations; k++) {
            int cost = r(60), price = 30 + r(60), late = r(4);
            same("station", () -> x.station(cost, price, late), () -> y.station(cost, price, late));
        }
        for (int k = r(7); k > 0; k--) {
            driver(false);
        }
        for (int k = 0; k < stations; k++) {
            text(true, k, rulesText());
        }
        for (int k = r(9), price = r(20); k > 0 && price < 100; k--, price += 1 + r(15)) {
            int p = price;
            same("level " + p, () -> x.level(p), () -> y.level(p));
        }
    }

    private void driver(boolean wrong) {
        int many = 1 + n(99, wrong), habit = n(stations(), wrong), detour = n(r(2) == 0 ? 4 : 21, wrong);
        int know = n(1 << stations(), wrong);
        same("driver " + many + " " + habit + " " + know + " " + detour,
                () -> x.driver(many, habit, know, detour), () -> y.driver(many, habit, know, detour));
    }

    private int stations() {
        return Math.max(1, y.s.stations.size());
    }

    // ---- texts

    private void text(boolean rules, int station, String text) {
        for (int[] row : Checks.rows(text)) {
            same("feed", () -> x.feed(row[0], row[1], row[2], row[3], row[4]), () -> y.feed(row));
        }
        int length = Math.min(text.length(), 400);
        if (rules) {
            same("rules " + station + " '" + text + "'",
                    () -> x.rules(station, length), () -> y.rules(station, length));
        } else {
            same("law '" + text + "'", () -> x.law(length), () -> y.law(length));
        }
        same("fault 0", () -> x.fault(0), () -> y.fault(0));
        same("fault 1", () -> x.fault(1), () -> y.fault(1));
    }

    private String number(int most) {
        int v = r(most);
        return v < 10 && r(8) == 0 ? "0" + v : "" + v;
    }

    private String term() {
        return r(3) == 0 ? number(100) : TERMS[r(TERMS.length)];
    }

    private String blank() {
        return r(6) == 0 ? "\n " : " ";
    }

    private String sum() {
        StringBuilder b = new StringBuilder(term());
        while (r(4) == 0) {
            b.append(r(2) == 0 ? "+" : " - ").append(term());
        }
        return b.toString();
    }

    private String claim() {
        StringBuilder b = new StringBuilder();
        while (r(5) == 0) {
            b.append("not ");
        }
        String right = r(2) == 0 ? number(r(2) == 0 ? 24 : 100) : sum();
        return b.append(sum()).append("<=>".charAt(r(3))).append(right).toString();
    }

    private String rulesText() {
        if (r(3) == 0) {
            return KNOWN_WAYS[r(KNOWN_WAYS.length)];
        }
        StringBuilder b = new StringBuilder();
        int many = r(9) == 0 ? 11 + r(3) : r(5);
        for (int k = 0; k < many; k++) {
            String[] deeds = {"up " + number(12), "down " + number(6), "to " + number(100), "below " + number(4),
                "match", "keep", "below 1", "up 5"};
            b.append(deeds[r(deeds.length)]);
            if (r(4) > 0) {
                b.append(blank()).append("when ").append(claim());
                while (r(3) == 0) {
                    b.append(r(2) == 0 ? " and " : " or ").append(claim());
                }
            }
            b.append(r(3) == 0 ? " ; " : ";");
        }
        return spoiled(b.toString());
    }

    private String lawText() {
        StringBuilder b = new StringBuilder();
        for (int k = r(6); k > 0; k--) {
            String[] lines = {"once " + (1 + r(5)), "at " + number(24), "cap " + number(r(2) == 0 ? 5 : 100), "told",
                "cost", "at " + number(26), "once " + number(100)};
            b.append(lines[r(lines.length)]).append(r(3) == 0 ? " ; " : ";");
        }
        return spoiled(b.toString());
    }

    private String spoiled(String text) {
        String cut = text.substring(0, Math.min(text.length(), 400));
        if (r(5) > 0) {
            return cut;
        }
        if (r(4) == 0) {
            StringBuilder b = new StringBuilder();
            for (int k = r(12); k > 0; k--) {
                b.append(ALL_WORDS[r(ALL_WORDS.length)]).append(r(4) == 0 ? "" : " ");
            }
            return b.toString();
        }
        int at = r(cut.length() + 1);
        int till = Math.min(cut.length(), at + r(6));
        String all = cut.substring(0, at) + (r(2) == 0 ? ALL_WORDS[r(ALL_WORDS.length)] : "") + cut.substring(till);
        return all.substring(0, Math.min(all.length(), 400));
    }

    // ---- steps

    private void step(boolean wrong) {
        switch (r(7)) {
            case 0: stationsStep(wrong); break;
            case 1: textsStep(wrong); break;
            case 2: hoursStep(wrong); break;
            case 3: boardsStep(wrong); break;
            case 4: gamesStep(wrong); break;
            case 5: storiesStep(wrong); break;
            default: traysStep(wrong); break;
        }
    }

    private void stationsStep(boolean wrong) {
        int s = n(stations(), wrong), v = n(100, wrong), w = n(100, wrong), l = n(4, wrong);
        switch (r(6)) {
            case 0: same("station " + v + " " + w + " " + l, () -> x.station(v, w, l), () -> y.station(v, w, l)); break;
            case 1: driver(wrong); break;
            case 2:
            case 3: same("cost " + s + " " + v, () -> x.cost(s, v), () -> y.cost(s, v)); break;
            case 4: same("late " + s + " " + l, () -> x.late(s, l), () -> y.late(s, l)); break;
            default: {
                int what = n(10, wrong);
                same("count " + what, () -> x.count(what), () -> y.count(what));
            }
        }
    }

    private void textsStep(boolean wrong) {
        switch (r(8)) {
            case 0:
            case 1: text(true, n(stations(), wrong), rulesText()); break;
            case 2: text(false, 0, lawText()); break;
            case 3: text(false, 0, ""); break;
            case 4: {
                int a = random.nextInt(), b = random.nextInt();
                same("feed", () -> x.feed(a, b, a, b, a), () -> y.feed(a, b, a, b, a));
                break;
            }
            case 5: {
                int s = n(stations(), wrong), n = n(y.tape.length() + 1, wrong);
                same("rules " + s + " " + n, () -> x.rules(s, n), () -> y.rules(s, n));
                break;
            }
            case 6: {
                int n = n(y.tape.length() + 1, wrong);
                same("law " + n, () -> x.law(n), () -> y.law(n));
                break;
            }
            default: {
                int what = n(2, wrong);
                same("fault " + what, () -> x.fault(what), () -> y.fault(what));
            }
        }
    }

    private void hoursStep(boolean wrong) {
        int s = n(stations(), wrong), what = n(3, wrong), kind = n(Math.max(1, y.s.kinds.size()), wrong);
        int hours = r(4) == 0 ? n(301, wrong) : n(12, false);
        switch (r(6)) {
            case 0:
            case 1: same("run " + hours, () -> x.run(hours), () -> y.run(hours)); break;
            case 2: same("price " + s, () -> x.price(s), () -> y.price(s)); break;
            case 3: same("would " + s, () -> x.would(s), () -> y.would(s)); break;
            case 4: same("of " + s + " " + what, () -> x.of(s, what), () -> y.of(s, what)); break;
            default: same("fills " + kind, () -> x.fills(kind), () -> y.fills(kind)); break;
        }
    }

    private void boardsStep(boolean wrong) {
        int s = n(stations(), wrong), n = 1 + n(24, wrong);
        int run = y.s.history.size();
        int t = r(3) == 0 ? run - 256 + r(4) - 2 : n(run + 1, wrong);
        boolean flag = r(2) == 0;
        switch (r(5)) {
            case 0: same("board " + s + " " + t, () -> x.board(s, t), () -> y.board(s, t)); break;
            case 1: same("round", () -> x.round(), () -> y.round()); break;
            case 2: same("leads " + s + " " + flag, () -> x.leads(s, flag), () -> y.leads(s, flag)); break;
            default: {
                same("passed " + s + " " + n + " " + flag,
                        () -> x.passed(s, n, flag) ? 1 : 0, () -> y.passed(s, n, flag));
                sameFraction();
            }
        }
    }

    private void sameFraction() {
        same("upper", () -> x.upper(), () -> y.upper());
        same("lower", () -> x.lower(), () -> y.lower());
    }

    private void gamesStep(boolean wrong) {
        int levels = Math.max(1, y.s.levels.size());
        int a = n(stations(), wrong), b = r(6) == 0 ? n(stations(), wrong) : (a + 1) % stations();
        int i = n(levels, wrong), j = n(levels, wrong), h = 1 + n(40, wrong), k = n(h > 0 ? h : 3, wrong);
        int nights = 1 + n(r(3) == 0 ? 2000 : 60, wrong), seed = r(2) == 0 ? r(50) : random.nextInt();
        int few = 1 + n(r(3) == 0 ? 300 : 30, wrong), many = 1 + n(20, wrong);
        boolean other = r(2) == 0;
        String two = a + " " + b + " ";
        switch (r(10)) {
            case 0: same("level " + k, () -> x.level(k), () -> y.level(k)); break;
            case 1: same("gain " + two + i + " " + j + " " + other,
                    () -> x.gain(a, b, i, j, other), () -> y.gain(a, b, i, j, other)); break;
            case 2: same("reply " + two + j, () -> x.reply(a, b, j), () -> y.reply(a, b, j)); break;
            case 3: same("even " + two + (i - 1), () -> x.even(a, b, i - 1), () -> y.even(a, b, i - 1)); break;
            case 4: same("joint " + two, () -> x.joint(a, b), () -> y.joint(a, b)); break;
            case 5: same("turn " + two + j + " " + h + " " + k,
                    () -> x.turn(a, b, j, h, k), () -> y.turn(a, b, j, h, k)); break;
            case 6: same("gains " + two + j + " " + h + " " + other,
                    () -> x.gains(a, b, j, h, other), () -> y.gains(a, b, j, h, other)); break;
            case 7: same("learn " + two + nights + " " + seed,
                    () -> x.learn(a, b, nights, seed), () -> y.learn(a, b, nights, seed)); break;
            case 8: same("above " + two + few + " " + many,
                    () -> x.above(a, b, few, many), () -> y.above(a, b, few, many)); break;
            default: same("punish " + two + nights + " " + seed + " " + i,
                    () -> x.punish(a, b, nights, seed, i), () -> y.punish(a, b, nights, seed, i)); break;
        }
    }

    private void storiesStep(boolean wrong) {
        int a = n(21, wrong), b = r(4) == 0 ? -1 : n(21, wrong), c = r(4) == 0 ? -1 : n(21, wrong);
        int story = n(2, wrong), tray = n(4, wrong), tank = 1 + n(12, wrong), f = n(tank > 0 ? tank + 1 : 3, wrong);
        int days = tray >= 0 && tray < 4 && y.trays[tray] != null ? y.trays[tray].length : 3;
        int day = n(days + 1, wrong) - 1, s = n(stations(), wrong);
        switch (r(8)) {
            case 0: same("story " + story + " " + tray,
                    () -> x.story(story, tray) ? 1 : 0, () -> y.story(story, tray)); break;
            case 1: same("rise " + a + " " + b + " " + c, () -> x.rise(a, b, c), () -> y.rise(a, b, c)); break;
            case 2:
                same("odds", () -> { x.odds(); return 0; }, () -> y.odds());
                sameFraction();
                break;
            case 3:
            case 4: same("fill " + tray + " " + tank + " " + f + " " + day,
                    () -> x.fill(tray, tank, f, day), () -> y.fill(tray, tank, f, day)); break;
            case 5:
            case 6: told(wrong); break;
            default: same("fit " + s, () -> x.fit(s), () -> y.fit(s)); break;
        }
    }

    /** Rows mostly go on as the rules would have it, so that fit() has something to go along. */
    private void told(boolean wrong) {
        for (int many = 1 + r(12); many > 0; many--) {
            int[] row = new int[4];
            List<int[]> rows = y.s.told;
            for (int k = 0; k < 4; k++) {
                boolean along = k < y.s.stations.size() && !rows.isEmpty() && r(12) > 0;
                row[k] = along ? y.decide(rows, rows.get(0), k, rows.size()) : n(100, wrong);
            }
            same("told " + row[0] + " " + row[1] + " " + row[2] + " " + row[3],
                    () -> x.told(row[0], row[1], row[2], row[3]), () -> y.told(row[0], row[1], row[2], row[3]));
        }
    }

    private void traysStep(boolean wrong) {
        int tray = n(4, wrong), sort = n(4, wrong), many = r(3) == 0 ? 21 : n(29, wrong), image = n(3, wrong);
        switch (r(6)) {
            case 0:
                same("tray " + tray + " " + sort + " " + many,
                        () -> { x.tray(tray, sort, many); return 0; }, () -> y.tray(tray, sort, many));
                for (int k = 0; k < many && k < 28; k++) {
                    writeOne(tray, k, r(many == 21 ? 10 : 100));
                }
                break;
            case 1: writeOne(tray, n(28, wrong), random.nextLong()); break;
            case 2: writeOne(tray, n(28, wrong), r(10)); break;
            case 3:
            case 4: same("image " + image, () -> { x.image(image); return 0; }, () -> y.image(image)); break;
            default: same("restore " + image, () -> { x.restore(image); return 0; }, () -> y.restore(image)); break;
        }
    }

    private void writeOne(int tray, int place, long v) {
        same("write " + tray + " " + place + " " + v, () -> x.write(tray, place, v), () -> y.write(tray, place, v));
    }
}
