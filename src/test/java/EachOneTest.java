import java.util.ArrayList;
import java.util.List;
import java.util.function.Function;

/** What a promise says of one STATION, kind, pair, TRAY or STORY holds for each of them, not for the first alone. */
public final class EachOneTest {
    private static final Checks c = new Checks();

    public static void main(String[] args) {
        costsAndLates();
        costsSeen();
        latesSeen();
        sinceOfEach();
        profitsOfEach();
        leadsOfEach();
        passedOfEach();
        fitsOfEach();
        placesOfKinds();
        toldForBoth();
        gamesOfAnyTwo();
        traysOfNoughts();
        storiesOfTrays();
        c.end();
    }

    /** Four stations with costs 10, 20, 30, 40, prices 50, 60, 70, 80 and late by 0, 1, 2, 3. */
    private static PumpCrossing four() {
        PumpCrossing x = new PumpCrossing();
        for (int s = 0; s < 4; s++) {
            x.station(10 + 10 * s, 50 + 10 * s, s);
        }
        return x;
    }

    // ---- Promises 4, 5: "COST of a STATION ...: what it was"; "LATE of a STATION: what it was"

    private static void costsAndLates() {
        for (int s = 0; s < 4; s++) {
            PumpCrossing x = four();
            c.due("cost of " + s, x.cost(s, 7), 10 + 10 * s);
            c.due("late of " + s, x.late(s, 3 - s), s);
            for (int o = 0; o < 4; o++) {
                c.due("cost of " + o + " behind that of " + s, x.cost(o, 9), o == s ? 7 : 10 + 10 * o);
                c.due("late of " + o + " behind that of " + s, x.late(o, 0), o == s ? 3 - s : o);
            }
        }
    }

    // ---- an hour

    /** "In E: own PRICE; ... cost". */
    private static void costsSeen() {
        for (int s = 0; s < 4; s++) {
            PumpCrossing x = four();
            for (int o = 0; o < 4; o++) {
                Checks.rules(x, o, "to 9 when cost=" + (10 + 10 * s) + " and own=" + (50 + 10 * s) + ";");
            }
            for (int o = 0; o < 4; o++) {
                c.due("cost and price of " + s + ", seen by " + o, x.would(o), o == s ? 9 : 50 + 10 * o);
            }
            x.run(1);
            for (int o = 0; o < 4; o++) {
                c.due("cost and price of " + s + ", run by " + o, x.price(o), o == s ? 9 : 50 + 10 * o);
            }
        }
    }

    /** "A STATION sees of another one the PRICE as it was behind HOUR t - 1 - LATE": by its own LATE. */
    private static void latesSeen() {
        for (int s = 0; s < 4; s++) {
            for (int late = 0; late < 4; late++) {
                PumpCrossing x = new PumpCrossing();
                int risen = (s + 1) % 4;
                for (int o = 0; o < 4; o++) {
                    x.station(0, o == risen ? 20 : 90, o == s ? late : (late + 1) % 4);
                }
                Checks.rules(x, s, "match;");
                Checks.rules(x, risen, "up 1;");
                x.run(8);
                for (int t = 0; t < 8; t++) {
                    int due = 20 + Math.max(0, t - late);
                    c.due("station " + s + " late by " + late + ", hour " + t, x.board(s, t), due);
                }
            }
        }
    }

    /** "since: HOURS since it last was changed", by each STATION for itself, in run, would and of. */
    private static void sinceOfEach() {
        PumpCrossing x = four();
        for (int s = 0; s < 4; s++) {
            c.due("never, station " + s, x.of(s, 2), 1);
            Checks.rules(x, s, "to 9 when hour=" + s + ";to 5 when since=3 and hour>3;");
        }
        x.run(4);
        for (int s = 0; s < 4; s++) {
            c.due("changed in hour " + s, x.of(s, 2), 4 - s);
            c.due("would in hour 4, station " + s, x.would(s), s == 1 ? 5 : 9);
        }
        x.run(3);
        for (int s = 0; s < 4; s++) {
            // Station 0 was changed in hour 0: in hour 4 it is 4 HOURS ago already.
            c.due("behind hour 6, station " + s, x.price(s), s == 0 ? 9 : 5);
            c.due("in hour 7, station " + s, x.of(s, 2), s == 0 ? 7 : 4 - s);
            for (int t = 4; t < 7 && s > 0; t++) {
                c.due("station " + s + " behind hour " + t, x.board(s, t), t < s + 3 ? 9 : 5);
            }
        }
    }

    /** "PROFIT of a STATION grows by MANY times (PRICE less COST) ..., SOLD by MANY": by its own COST. */
    private static void profitsOfEach() {
        PumpCrossing x = four();
        for (int s = 0; s < 4; s++) {
            x.driver(1 + s, s, 0, 0);
        }
        x.cost(2, 75);
        x.run(3);
        int[] profit = {3 * 40, 3 * 2 * 40, 3 * 3 * -5, 3 * 4 * 40};
        for (int s = 0; s < 4; s++) {
            c.due("profit of " + s, x.of(s, 0), profit[s]);
            c.due("sold of " + s, x.of(s, 1), 3 * (1 + s));
        }
        c.due("paid", x.count(7), 3 * (50 + 2 * 60 + 3 * 70 + 4 * 80));
    }

    /** "LEADS of a STATION"; FOLLOWED by "each other STATION": s goes up in hour 4, others in hours 6, 7 and 8. */
    private static void leadsOfEach() {
        for (int s = 0; s < 4; s++) {
            int first = s == 0 ? 1 : 0;
            PumpCrossing x = four();
            int hour = 6;
            for (int o = 0; o < 4; o++) {
                Checks.rules(x, o, "up 1 when hour=" + (o == s ? 4 : hour++) + ";");
            }
            x.run(20);
            for (int o = 0; o < 4; o++) {
                // Behind hour 5, in which none went up, the first other one leads, too, but s doesn't follow.
                c.due(o + " leads, " + s + " first", x.leads(o, false), o == s || o == first ? 1 : 0);
                c.due(o + " is followed, " + s + " first", x.leads(o, true), o == s ? 1 : 0);
            }
        }
    }

    /** "PASSED of a STATION": of its own changes and its own PRICE. */
    private static void passedOfEach() {
        PumpCrossing x = four();
        for (int s = 0; s < 4; s++) {
            Checks.rules(x, s, "up " + (s + 1) + ";");
        }
        x.run(1);
        for (int s = 3; s >= 0; s--) {
            x.cost(s, 12 + 10 * s);
        }
        x.cost(3, 39);
        x.run(1);
        int[][] due = {{1, 2}, {1, 1}, {3, 2}, {2, 1}};
        for (int s = 0; s < 4; s++) {
            c.due("passed of " + s, x.passed(s, 1, true), true);
            c.due("upper of " + s, x.upper(), due[s][0]);
            c.due("lower of " + s, x.lower(), due[s][1]);
            c.due("downwards, of " + s, x.passed(s, 1, false), s == 3);
            c.due("downwards, upper of " + s, x.upper(), s == 3 ? 0 : due[s][0]);
        }
    }

    // ---- Promise 36

    /** "FIT of a STATION": by its own RULES, its own rows and its own changes. */
    private static void fitsOfEach() {
        for (int wrong = 0; wrong < 4; wrong++) {
            PumpCrossing x = four();
            for (int s = 0; s < 4; s++) {
                Checks.rules(x, s, "up 1 when since=" + (s + 2) + ";");
            }
            for (int k = 0; k < 20; k++) {
                tellRow(x, k, -1);
            }
            for (int s = 0; s < 4; s++) {
                c.due("fit of " + s, x.fit(s), -1);
            }
            tellRow(x, 20, wrong);
            for (int s = 0; s < 4; s++) {
                c.due("fit of " + s + " where " + wrong + " is wrong", x.fit(s), s == wrong ? 20 : -1);
            }
        }
        for (int s = 0; s < 4; s++) {
            // Row 0 is as ahead of it: in row 1 nothing rose, whatever one sees late.
            PumpCrossing x = four();
            Checks.rules(x, s, "to 9 when rose+fell>0 or least<61;");
            x.told(61 + s, 62 + s, 63 + s, 64 + s);
            x.told(61 + s, 62 + s, 63 + s, 64 + s);
            c.due("nothing rose ahead of row 0, station " + s, x.fit(s), -1);
        }
    }

    /** Station s goes up by 1 each s + 2 rows, the first time in row s + 1; the wrong one is 9 above. */
    private static void tellRow(PumpCrossing x, int k, int wrong) {
        int[] row = new int[4];
        for (int s = 0; s < 4; s++) {
            row[s] = 20 + (k + 1) / (s + 2) + (s == wrong ? 9 : 0);
        }
        x.told(row[0], row[1], row[2], row[3]);
    }

    // ---- drivers

    /** "A DRIVER fills where it costs least": by MANY, HABIT, KNOW and DETOUR of its own kind. */
    private static void placesOfKinds() {
        PumpCrossing x = new PumpCrossing();
        int[] prices = {60, 58, 50, 54};
        for (int price : prices) {
            x.station(40, price, 0);
        }
        // HABIT, KNOW, DETOUR, where it fills.
        int[][] kinds = {
            {0, 15, 20, 0}, // 60; 78, 70, 74
            {0, 15, 3, 2}, // 60; 61, 53, 57
            {0, 11, 3, 3}, // 60; 61, 57
            {1, 9, 3, 3}, // 58; 63, 57
            {3, 7, 4, 3}, // 54; 64, 62, 54 is like it
            {1, 15, 9, 1}, // 58; 69, 59, 63
        };
        for (int k = 0; k < 6; k++) {
            c.due("kind " + k, x.driver(1 << k, kinds[k][0], kinds[k][1], kinds[k][2]), k);
        }
        for (int k = 0; k < 6; k++) {
            c.due("kind " + k + " fills", x.fills(k), kinds[k][3]);
        }
        x.run(1);
        int[] sold = {1, 32, 2, 4 + 8 + 16};
        for (int s = 0; s < 4; s++) {
            c.due("sold of " + s, x.of(s, 1), sold[s]);
        }
    }

    // ---- Promises 22 to 30

    /** "told: all DRIVERS KNOW all": in GAINS of a and of b, too. */
    private static void toldForBoth() {
        PumpCrossing x = new PumpCrossing();
        x.station(40, 70, 0);
        x.station(40, 70, 0);
        x.driver(2, 0, 0, 5);
        x.driver(3, 1, 0, 5);
        x.level(50);
        x.level(60);
        // Without it each stays; told, all go to the lower one: i, j, a's, b's, a's told, b's told.
        int[][] due = {{0, 0, 20, 30, 20, 30}, {0, 1, 20, 60, 50, 0}, {1, 0, 40, 30, 0, 50}, {1, 1, 40, 60, 40, 60}};
        for (int[] d : due) {
            x.law(0);
            c.due("a at " + d[0] + ", b at " + d[1], x.gain(0, 1, d[0], d[1], false), d[2]);
            c.due("b at " + d[1] + ", a at " + d[0], x.gain(0, 1, d[0], d[1], true), d[3]);
            Checks.law(x, "told;");
            c.due("told: a at " + d[0] + ", b at " + d[1], x.gain(0, 1, d[0], d[1], false), d[4]);
            c.due("told: b at " + d[1] + ", a at " + d[0], x.gain(0, 1, d[0], d[1], true), d[5]);
        }
    }

    /** "A GAME of two STATIONS a, b": of any two, in any order; others that no driver knows change nothing. */
    private static void gamesOfAnyTwo() {
        List<Long> want = answers(game(0, 1, 2), 0, 1);
        c.due("a's gain at 60 and 60", want.get(0), 13 * 10);
        c.due("b's gain at 60 and 60", want.get(1), 5 * 15);
        c.due("a's gain at 60 and 66", want.get(2), 18 * 10);
        c.due("b's gain at 70 and 60", want.get(13), 15 * 15);
        for (int a = 0; a < 4; a++) {
            for (int b = 0; b < 4; b++) {
                if (a != b) {
                    List<Long> got = answers(game(a, b, 4), a, b);
                    for (int k = 0; k < want.size(); k++) {
                        c.due("game of " + a + " and " + b + ", question " + k, got.get(k), want.get(k));
                    }
                }
            }
        }
    }

    /** By levels 60, 66, 70; a has cost 50, b 45, and others, whom nobody knows, lower prices. */
    private static PumpCrossing game(int a, int b, int stations) {
        PumpCrossing x = new PumpCrossing();
        for (int s = 0; s < stations; s++) {
            x.station(s == a ? 50 : s == b ? 45 : 1 + s, s == a ? 71 : s == b ? 69 : 20 + s, 0);
        }
        int both = 1 << a | 1 << b;
        x.driver(10, a, both, 1);
        x.driver(5, b, both, 2);
        x.driver(3, a, 0, 0);
        x.level(60);
        x.level(66);
        x.level(70);
        return x;
    }

    private static List<Long> answers(PumpCrossing x, int a, int b) {
        List<Long> all = new ArrayList<>();
        for (int i = 0; i < 3; i++) {
            for (int j = 0; j < 3; j++) {
                all.add((long) x.gain(a, b, i, j, false));
                all.add((long) x.gain(a, b, i, j, true));
            }
        }
        for (int j = 0; j < 3; j++) {
            all.add((long) x.reply(a, b, j));
            for (int h = 1; h < 6; h++) {
                for (int k = 0; k < h; k++) {
                    all.add((long) x.turn(a, b, j, h, k));
                }
                all.add(x.gains(a, b, j, h, false));
                all.add(x.gains(a, b, j, h, true));
            }
            all.add((long) x.punish(a, b, 200, 3, j));
        }
        for (int k = -1; k < 3; k++) {
            all.add((long) x.even(a, b, k));
        }
        for (int seed = 0; seed < 40; seed++) {
            all.add((long) x.learn(a, b, 20 + seed, seed));
        }
        all.add((long) x.joint(a, b));
        all.add((long) x.above(a, b, 40, 20));
        return all;
    }

    // ---- Promises 31, 34, 37

    /** "A TRAY is a row of so many 0s": each one again, whatever was written. */
    private static void traysOfNoughts() {
        for (int tray = 0; tray < 4; tray++) {
            PumpCrossing x = new PumpCrossing();
            for (int other = 0; other < 4; other++) {
                x.tray(other, 3, 28);
                for (int place = 0; place < 28; place++) {
                    x.write(other, place, 1 + other);
                }
            }
            x.tray(tray, 0, 28);
            for (int other = 0; other < 4; other++) {
                // A tank of one, empty: one is filled at each DAY's price.
                int due = other == tray ? 0 : 28 * (1 + other);
                c.due("tray " + other + " behind tray " + tray + " again", x.fill(other, 1, 0, -1), due);
            }
        }
    }

    /** Weights, and prices, are looked at in the TRAY that is named, whatever others are or how long. */
    private static void storiesOfTrays() {
        for (int tray = 0; tray < 4; tray++) {
            int t = tray;
            for (int story = 0; story < 2; story++) {
                int which = story;
                Function<Integer, Boolean> told = last -> {
                    PumpCrossing x = new PumpCrossing();
                    x.tray((t + 1) % 4, 0, 3);
                    x.tray(t, 0, 21);
                    x.write(t, 20, last);
                    boolean is = x.story(which, t);
                    x.rise(20, -1, -1);
                    x.odds();
                    c.due("upper, story " + which + " by tray " + t, x.upper(), is && which == 0 ? last : 1);
                    c.due("lower, story " + which + " by tray " + t, x.lower(), is && which == 1 ? last : 1);
                    return is;
                };
                c.due("9 at place 20 of tray " + t, told.apply(9), true);
                c.due("10 at place 20 of tray " + t, told.apply(10), false);
            }
            PumpCrossing x = new PumpCrossing();
            x.tray((t + 1) % 4, 0, 1);
            x.tray(t, 1, 5);
            x.write(t, 4, 100);
            c.dueThrow("100 on day 4 of tray " + t, IllegalArgumentException.class, () -> x.fill(t, 9, 9, -1));
        }
    }
}
