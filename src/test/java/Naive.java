import java.math.BigInteger;
import java.util.ArrayList;
import java.util.HashMap;
import java.util.List;
import java.util.Map;
import java.util.NoSuchElementException;
import java.util.function.ToIntFunction;
import java.util.function.Predicate;

/**
 * The document told a second time, in the plainest way and without a thought for speed or memory, for ReferenceTest to
 * set beside the class: histories are kept whole, texts become trees, what comes best is looked for by recursion.
 */
final class Naive {
    static final int NONE = -1;

    static final class Station {
        int cost, late, told;
        long profit, sold;
        List<Rule> rules = new ArrayList<>();
    }

    static final class Rule {
        String deed;
        int n;
        Predicate<Map<String, Integer>> when;
    }

    static final class Kind { int many, habit, know, detour; }

    static final class Change { int station, hour, from, to; }

    static final class State {
        List<Station> stations = new ArrayList<>();
        List<Kind> kinds = new ArrayList<>();
        List<String> law = new ArrayList<>();
        List<int[]> history = new ArrayList<>();
        List<Change> changes = new ArrayList<>();
        List<Integer> levels = new ArrayList<>();
        int[][] weights = new int[2][21];
        List<List<Integer>> rises = new ArrayList<>();
        List<int[]> told = new ArrayList<>();
        long paid;

        State copy() {
            State c = new State();
            for (Station s : stations) {
                Station t = new Station();
                t.cost = s.cost;
                t.late = s.late;
                t.told = s.told;
                t.profit = s.profit;
                t.sold = s.sold;
                t.rules = s.rules;
                c.stations.add(t);
            }
            c.kinds.addAll(kinds);
            c.law = law;
            c.history.addAll(history);
            c.changes.addAll(changes);
            c.levels.addAll(levels);
            c.weights = new int[][] {weights[0].clone(), weights[1].clone()};
            c.rises.addAll(rises);
            c.told.addAll(told);
            c.paid = paid;
            return c;
        }
    }

    State s = new State();
    State[] images = new State[3];
    String tape = "";
    int fault = 0, place = NONE;
    BigInteger up = BigInteger.ZERO, low = BigInteger.ZERO;
    long[][] trays = new long[4][];
    int[] sorts = new int[4];

    Naive() {
        for (int[] w : s.weights) {
            java.util.Arrays.fill(w, 1);
        }
    }

    // ---- helpers

    void st(int k) {
        if (k < 0 || k >= s.stations.size()) throw new NoSuchElementException();
    }

    static void arg(boolean fine) {
        if (!fine) throw new IllegalArgumentException();
    }

    static boolean in(long v, long a, long b) {
        return v >= a && v <= b;
    }

    void two(int a, int b) {
        st(a);
        st(b);
        arg(a != b);
    }

    void lev(int i) {
        if (i < 0 || i >= s.levels.size()) throw new IndexOutOfBoundsException();
    }

    int[] prices() {
        if (!s.history.isEmpty()) return s.history.get(s.history.size() - 1).clone();
        return toldPrices();
    }

    int[] toldPrices() {
        int[] p = new int[s.stations.size()];
        for (int k = 0; k < p.length; k++) p[k] = s.stations.get(k).told;
        return p;
    }

    // ---- stations, drivers

    long station(int cost, int price, int late) {
        if (!s.history.isEmpty() || !s.told.isEmpty()) throw new IllegalStateException();
        arg(in(cost, 0, 99) && in(price, 0, 99) && in(late, 0, 3));
        if (s.stations.size() == 4) return NONE;
        Station n = new Station();
        n.cost = cost;
        n.told = price;
        n.late = late;
        s.stations.add(n);
        return s.stations.size() - 1;
    }

    long driver(int many, int habit, int know, int detour) {
        st(habit);
        arg(in(many, 1, 99) && in(detour, 0, 20));
        for (int bit = 0; bit < 32; bit++) {
            arg((know >>> bit & 1) == 0 || bit < s.stations.size());
        }
        if (s.kinds.size() == 6) return NONE;
        Kind k = new Kind();
        k.many = many;
        k.habit = habit;
        k.know = know;
        k.detour = detour;
        s.kinds.add(k);
        return s.kinds.size() - 1;
    }

    long cost(int station, int v) {
        st(station);
        arg(in(v, 0, 99));
        Station t = s.stations.get(station);
        int was = t.cost;
        if (was != v) {
            Change c = new Change();
            c.station = station;
            c.hour = s.history.size();
            c.from = was;
            c.to = v;
            s.changes.add(c);
            if (s.changes.size() > 10) s.changes.remove(0);
        }
        t.cost = v;
        return was;
    }

    long late(int station, int v) {
        st(station);
        arg(in(v, 0, 3));
        int was = s.stations.get(station).late;
        s.stations.get(station).late = v;
        return was;
    }

    // ---- texts

    long feed(int... five) {
        if (tape.length() + 20 > 400) return NONE;
        for (int v : five) {
            for (byte b : java.nio.ByteBuffer.allocate(4).putInt(v).array()) tape += (char) (b & 255);
        }
        return tape.length();
    }

    static final class Fault extends Exception {
        final int kind, place;

        Fault(int kind, int place) {
            this.kind = kind;
            this.place = place;
        }
    }

    /** Reads a text by going down its grammar; "" is the end. */
    static final class Parser {
        final String text;
        int at = 0;

        Parser(String text) {
            this.text = text;
        }

        int start() {
            int p = at;
            while (p < text.length() && (text.charAt(p) == 10 || text.charAt(p) == 32)) p++;
            return p;
        }

        String peek() throws Fault {
            int p = start();
            if (p == text.length()) return "";
            String rest = text.substring(p);
            for (String form : new String[] {"[a-z]+", "[0-9]+", "[;<=>+-]"}) {
                java.util.regex.Matcher m = java.util.regex.Pattern.compile(form).matcher(rest);
                if (m.lookingAt()) {
                    if (form.equals("[0-9]+") && m.end() > 2) throw new Fault(1, p);
                    return m.group();
                }
            }
            throw new Fault(1, p);
        }

        String take(String... may) throws Fault {
            String t = peek();
            if (!List.of(may).contains(t)) throw new Fault(2, start());
            at = start() + t.length();
            return t;
        }

        int number(int least, int most) throws Fault {
            String t = peek();
            if (!t.matches("[0-9]+")) throw new Fault(2, start());
            int n = Integer.parseInt(t);
            if (n < least || n > most) throw new Fault(3, start());
            at = start() + t.length();
            return n;
        }

        List<Rule> rules() throws Fault {
            List<Rule> all = new ArrayList<>();
            while (!peek().isEmpty()) {
                int p = start();
                Rule r = new Rule();
                r.deed = take("up", "down", "to", "below", "match", "keep");
                if (all.size() == 12) throw new Fault(4, p);
                if (!r.deed.equals("match") && !r.deed.equals("keep")) r.n = number(0, 99);
                if (take("when", ";").equals("when")) {
                    r.when = b();
                    take(";");
                }
                all.add(r);
            }
            return all;
        }

        // A token that ends B must be refused there and not behind: so "may" lists what may follow everywhere.
        Predicate<Map<String, Integer>> b() throws Fault {
            Predicate<Map<String, Integer>> v = a();
            while (peek().equals("or")) {
                take("or");
                v = v.or(a());
            }
            return v;
        }

        Predicate<Map<String, Integer>> a() throws Fault {
            Predicate<Map<String, Integer>> v = c(0);
            while (peek().equals("and")) {
                take("and");
                v = v.and(c(0));
            }
            return v;
        }

        Predicate<Map<String, Integer>> c(int open) throws Fault {
            if (peek().equals("not")) {
                if (open == 4) throw new Fault(4, start());
                take("not");
                return c(open + 1).negate();
            }
            ToIntFunction<Map<String, Integer>> left = e();
            String op = take("<", "=", ">");
            ToIntFunction<Map<String, Integer>> right = e();
            return m -> {
                int d = Integer.compare(left.applyAsInt(m), right.applyAsInt(m));
                return op.equals("<") ? d < 0 : op.equals("=") ? d == 0 : d > 0;
            };
        }

        ToIntFunction<Map<String, Integer>> e() throws Fault {
            ToIntFunction<Map<String, Integer>> v = t();
            while (peek().equals("+") || peek().equals("-")) {
                int f = take("+", "-").equals("+") ? 1 : -1;
                ToIntFunction<Map<String, Integer>> l = v, r = t();
                v = m -> l.applyAsInt(m) + f * r.applyAsInt(m);
            }
            return v;
        }

        ToIntFunction<Map<String, Integer>> t() throws Fault {
            if (peek().matches("[0-9]+")) {
                int n = number(0, 99);
                return m -> n;
            }
            String w = take("own", "least", "most", "cost", "hour", "day", "since", "rose", "fell");
            return m -> m.get(w);
        }

        List<String> law() throws Fault {
            List<String> all = new ArrayList<>();
            while (!peek().isEmpty()) {
                String w = take("once", "at", "cap", "told", "cost");
                if (w.equals("once")) w += " " + number(1, 99);
                if (w.equals("at")) w += " " + number(0, 23);
                if (w.equals("cap")) w += " " + number(0, 99);
                take(";");
                all.add(w);
            }
            return all;
        }
    }

    long rules(int station, int n) {
        st(station);
        arg(in(n, 0, tape.length()));
        String text = tape.substring(0, n);
        tape = "";
        fault = 0;
        place = NONE;
        try {
            s.stations.get(station).rules = new Parser(text).rules();
            return s.stations.get(station).rules.size();
        } catch (Fault f) {
            fault = f.kind;
            place = f.place;
            return -10 - fault;
        }
    }

    long law(int n) {
        arg(in(n, 0, tape.length()));
        String text = tape.substring(0, n);
        tape = "";
        fault = 0;
        place = NONE;
        try {
            s.law = new Parser(text).law();
            return s.law.size();
        } catch (Fault f) {
            fault = f.kind;
            place = f.place;
            return -10 - fault;
        }
    }

    long fault(int what) {
        return what == 0 ? fault : what == 1 ? place : NONE;
    }

    // ---- hours

    static int[] row(List<int[]> rows, int[] ahead, int t) {
        return t < 0 ? ahead : rows.get(t);
    }

    static int since(List<int[]> rows, int[] ahead, int station, int t) {
        for (int c = t - 1; c >= 0; c--) {
            if (row(rows, ahead, c)[station] != row(rows, ahead, c - 1)[station]) return Math.min(99, t - c);
        }
        return Math.min(99, t + 1);
    }

    int decide(List<int[]> rows, int[] ahead, int station, int t) {
        Station me = s.stations.get(station);
        int own = row(rows, ahead, t - 1)[station];
        List<Integer> seen = new ArrayList<>();
        int rose = 0, fell = 0;
        for (int o = 0; o < s.stations.size(); o++) {
            if (o == station) continue;
            int p = row(rows, ahead, t - 1 - me.late)[o], q = row(rows, ahead, t - 2 - me.late)[o];
            seen.add(p);
            if (p > q) rose++;
            if (p < q) fell++;
        }
        if (seen.isEmpty()) seen.add(own);
        java.util.Collections.sort(seen);
        Map<String, Integer> m = new HashMap<>();
        m.put("own", own);
        m.put("least", seen.get(0));
        m.put("most", seen.get(seen.size() - 1));
        m.put("cost", me.cost);
        m.put("hour", t % 24);
        m.put("day", (t / 24) % 7);
        m.put("since", since(rows, ahead, station, t));
        m.put("rose", rose);
        m.put("fell", fell);
        return byLaw(wanted(me, m), m);
    }

    static int wanted(Station me, Map<String, Integer> m) {
        for (Rule r : me.rules) {
            if (r.when == null || r.when.test(m)) {
                switch (r.deed) {
                    case "up": return m.get("own") + r.n;
                    case "down": return m.get("own") - r.n;
                    case "to": return r.n;
                    case "below": return m.get("least") - r.n;
                    case "match": return m.get("least");
                    default: return m.get("own");
                }
            }
        }
        return m.get("own");
    }

    Integer lawful(String word) {
        Integer v = null;
        for (String line : s.law) {
            if (line.startsWith(word + " ")) v = Integer.valueOf(line.substring(word.length() + 1));
        }
        return v;
    }

    int byLaw(int p, Map<String, Integer> m) {
        int own = m.get("own");
        Integer cap = lawful("cap"), once = lawful("once");
        if (cap != null && p > own + cap) p = own + cap;
        if (s.law.contains("cost") && p != own && p < m.get("cost")) p = m.get("cost");
        if (p < 0) p = 0;
        if (p > 99) p = 99;
        if (p == own) return own;
        if (lawful("at") != null && !s.law.contains("at " + m.get("hour"))) return own;
        if (once != null && m.get("since") < once) return own;
        return p;
    }

    int fills(Kind k, int[] p) {
        int best = k.habit;
        for (int o = 0; o < p.length; o++) {
            boolean known = s.law.contains("told") || (k.know >> o & 1) == 1;
            if (o != k.habit && known) {
                int at = p[o] + k.detour, than = p[best] + (best == k.habit ? 0 : k.detour);
                if (at < than) best = o;
            }
        }
        return best;
    }

    long run(int hours) {
        arg(in(hours, 0, 300));
        int done = 0;
        while (done < hours && s.history.size() < 3000) {
            int[] next = new int[s.stations.size()];
            for (int k = 0; k < next.length; k++) next[k] = decide(s.history, toldPrices(), k, s.history.size());
            s.history.add(next);
            for (Kind k : s.kinds) {
                int at = fills(k, next);
                s.stations.get(at).profit += (long) k.many * (next[at] - s.stations.get(at).cost);
                s.stations.get(at).sold += k.many;
                s.paid += (long) k.many * next[at];
            }
            done++;
        }
        return done;
    }

    long price(int station) {
        st(station);
        return prices()[station];
    }

    boolean has(int t) {
        return t >= 0 && t < s.history.size() && t >= s.history.size() - 256;
    }

    long board(int station, int t) {
        st(station);
        if (!has(t)) throw new NoSuchElementException();
        return s.history.get(t)[station];
    }

    long would(int station) {
        st(station);
        return decide(s.history, toldPrices(), station, s.history.size());
    }

    long of(int station, int what) {
        st(station);
        arg(in(what, 0, 2));
        Station t = s.stations.get(station);
        return what == 0 ? t.profit : what == 1 ? t.sold : since(s.history, toldPrices(), station, s.history.size());
    }

    long fills(int kind) {
        if (kind < 0 || kind >= s.kinds.size()) throw new NoSuchElementException();
        return fills(s.kinds.get(kind), prices());
    }

    List<int[]> boards() {
        return s.history.subList(Math.max(0, s.history.size() - 256), s.history.size());
    }

    long round() {
        List<int[]> b = boards();
        search:
        for (int p = 1; p <= 100; p++) {
            if (b.size() < 2 * p) continue;
            for (int k = 1; k <= p; k++) {
                if (!java.util.Arrays.equals(b.get(b.size() - k), b.get(b.size() - k - p))) continue search;
            }
            return p;
        }
        return NONE;
    }

    long leads(int station, boolean followed) {
        st(station);
        List<int[]> b = boards();
        int many = 0;
        for (int k = 2; k < b.size(); k++) {
            List<Integer> ups = ups(b, k);
            if (!ups.equals(List.of(station)) || !ups(b, k - 1).isEmpty()) continue;
            if (followed) {
                if (k + 6 >= b.size()) continue;
                java.util.Set<Integer> who = new java.util.HashSet<>();
                who.add(station);
                for (int l = k + 1; l <= k + 6; l++) who.addAll(ups(b, l));
                if (who.size() < s.stations.size()) continue;
            }
            many++;
        }
        return many;
    }

    List<Integer> ups(List<int[]> b, int k) {
        List<Integer> who = new ArrayList<>();
        for (int o = 0; o < s.stations.size(); o++) {
            if (b.get(k)[o] > b.get(k - 1)[o]) who.add(o);
        }
        return who;
    }

    void fraction(BigInteger u, BigInteger l) {
        BigInteger g = u.gcd(l);
        up = g.signum() == 0 ? u : u.divide(g);
        low = g.signum() == 0 ? l : l.divide(g);
    }

    long passed(int station, int n, boolean upwards) {
        st(station);
        arg(in(n, 1, 24));
        long by = 0, went = 0;
        for (Change c : s.changes) {
            if (c.station != station || c.to > c.from != upwards) continue;
            if (!has(c.hour - 1) || !has(c.hour - 1 + n)) continue;
            int d = s.history.get(c.hour - 1 + n)[station] - s.history.get(c.hour - 1)[station];
            if (!upwards) d = -d;
            if (d > 0) went += d;
            by += Math.abs(c.to - c.from);
        }
        if (by == 0) return 0;
        fraction(BigInteger.valueOf(went), BigInteger.valueOf(by));
        return 1;
    }

    long upper() {
        return up.longValueExact();
    }

    long lower() {
        return low.longValueExact();
    }

    // ---- games

    long level(int price) {
        arg(in(price, 0, 99));
        for (int l : s.levels) arg(price > l);
        if (s.levels.size() == 8) return NONE;
        s.levels.add(price);
        return s.levels.size() - 1;
    }

    int gainOf(int a, int b, int i, int j, int whose) {
        int[] p = prices();
        p[a] = s.levels.get(i);
        p[b] = s.levels.get(j);
        int sum = 0;
        for (Kind k : s.kinds) {
            if (fills(k, p) == whose) sum += k.many * (p[whose] - s.stations.get(whose).cost);
        }
        return sum;
    }

    long gain(int a, int b, int i, int j, boolean other) {
        two(a, b);
        lev(i);
        lev(j);
        return gainOf(a, b, i, j, other ? b : a);
    }

    long reply(int a, int b, int j) {
        two(a, b);
        lev(j);
        int best = 0;
        for (int i = 0; i < s.levels.size(); i++) {
            if (gainOf(a, b, i, j, a) > gainOf(a, b, best, j, a)) best = i;
        }
        return best;
    }

    List<Integer> evens(int a, int b) {
        List<Integer> all = new ArrayList<>();
        int n = s.levels.size();
        for (int i = 0; i < n; i++) {
            for (int j = 0; j < n; j++) {
                boolean rests = true;
                for (int o = 0; o < n; o++) {
                    rests &= gainOf(a, b, o, j, a) <= gainOf(a, b, i, j, a);
                    rests &= gainOf(a, b, i, o, b) <= gainOf(a, b, i, j, b);
                }
                if (rests) all.add(10 * i + j);
            }
        }
        return all;
    }

    long even(int a, int b, int k) {
        two(a, b);
        List<Integer> all = evens(a, b);
        return k == NONE ? all.size() : k >= 0 && k < all.size() ? all.get(k) : NONE;
    }

    int together(int a, int b, int pair) {
        return gainOf(a, b, pair / 10, pair % 10, a) + gainOf(a, b, pair / 10, pair % 10, b);
    }

    long joint(int a, int b) {
        two(a, b);
        int best = NONE;
        for (int i = 0; i < s.levels.size(); i++) {
            for (int j = 0; j < s.levels.size(); j++) {
                if (best == NONE || together(a, b, 10 * i + j) > together(a, b, best)) best = 10 * i + j;
            }
        }
        return best;
    }

    /** {a's sum, b's sum, what was set in turn k, k + 1, ..} with the one that waits standing at a level. */
    List<Long> play(int a, int b, int stands, int k, int h, Map<Integer, List<Long>> known) {
        if (k == h) return new ArrayList<>(List.of(0L, 0L));
        Integer key = 100 * k + stands;
        if (known.containsKey(key)) return known.get(key);
        List<Long> best = null;
        int me = k % 2;
        for (int l = 0; l < s.levels.size(); l++) {
            int i = me == 0 ? l : stands, j = me == 0 ? stands : l;
            List<Long> rest = play(a, b, l, k + 1, h, known);
            List<Long> all = new ArrayList<>();
            all.add(rest.get(0) + gainOf(a, b, i, j, a));
            all.add(rest.get(1) + gainOf(a, b, i, j, b));
            all.add((long) l);
            all.addAll(rest.subList(2, rest.size()));
            if (best == null || all.get(me) > best.get(me)) best = all;
        }
        known.put(key, best);
        return best;
    }

    long turn(int a, int b, int j, int h, int k) {
        two(a, b);
        arg(in(h, 1, 40));
        lev(j);
        return k < 0 || k >= h ? NONE : play(a, b, j, 0, h, new HashMap<>()).get(2 + k);
    }

    long gains(int a, int b, int j, int h, boolean other) {
        two(a, b);
        arg(in(h, 1, 40));
        lev(j);
        return play(a, b, j, 0, h, new HashMap<>()).get(other ? 1 : 0);
    }

    long x;

    int draw() {
        x = x * 1103515245L + 12345L & 0xffffffffL;
        return (int) (x / 65536);
    }

    static int most(long[] row) {
        int best = 0;
        for (int k = 0; k < row.length; k++) {
            if (row[k] > row[best]) best = k;
        }
        return best;
    }

    /** {a's level, b's level, b's answer to each level of a ..}. */
    int[] learned(int a, int b, int n, int seed) {
        int many = s.levels.size();
        int[][][] g = new int[2][many][many];
        for (int i = 0; i < many; i++) {
            for (int j = 0; j < many; j++) {
                g[0][i][j] = gainOf(a, b, i, j, a);
                g[1][i][j] = gainOf(a, b, i, j, b);
            }
        }
        long[][][] table = new long[2][many][many];
        int[] at = {many - 1, many - 1};
        x = seed & 0xffffffffL;
        for (int night = 0; night < n + 10; night++) {
            int[] to = new int[2];
            for (int who = 0; who < 2; who++) {
                boolean tries = night < n && draw() % 100 < 50 - 50 * night / n;
                to[who] = tries ? draw() % many : most(table[who][at[1 - who]]);
            }
            for (int who = 0; who < 2 && night < n; who++) {
                long v = table[who][at[1 - who]][to[who]];
                long[] next = table[who][to[1 - who]];
                long aim = 8L * g[who][to[0]][to[1]] + 7 * next[most(next)] / 8;
                table[who][at[1 - who]][to[who]] = v + (aim - v) / 8;
            }
            at = to;
        }
        int[] all = new int[2 + many];
        all[0] = at[0];
        all[1] = at[1];
        for (int d = 0; d < many; d++) all[2 + d] = most(table[1][d]);
        return all;
    }

    long learn(int a, int b, int n, int seed) {
        two(a, b);
        arg(in(n, 1, 2000));
        if (s.levels.isEmpty()) return NONE;
        int[] l = learned(a, b, n, seed);
        return 10 * l[0] + l[1];
    }

    long above(int a, int b, int n, int many) {
        two(a, b);
        arg(in(n, 1, 300) && in(many, 1, 20));
        List<Integer> e = evens(a, b);
        if (e.isEmpty()) return NONE;
        int over = 0;
        for (int seed = 1; seed <= many; seed++) {
            if (together(a, b, (int) learn(a, b, n, seed)) > together(a, b, e.get(0))) over++;
        }
        return over;
    }

    long punish(int a, int b, int n, int seed, int d) {
        two(a, b);
        arg(in(n, 1, 2000));
        lev(d);
        return learned(a, b, n, seed)[2 + d];
    }

    // ---- stories, filling, told boards

    void needTray(int t) {
        if (t < 0 || t > 3) throw new NoSuchElementException();
    }

    void needRow(int t) {
        if (trays[t] == null) throw new IllegalStateException();
    }

    long story(int story, int tray) {
        if (story != 0 && story != 1) throw new NoSuchElementException();
        needTray(tray);
        needRow(tray);
        if (trays[tray].length != 21) return 0;
        for (long v : trays[tray]) {
            if (!in(v, 0, 9)) return 0;
        }
        for (int k = 0; k < 21; k++) s.weights[story][k] = (int) trays[tray][k];
        return 1;
    }

    long rise(int a, int b, int c) {
        List<Integer> lags = new ArrayList<>(List.of(a));
        if (b != NONE) {
            lags.add(b);
            if (c != NONE) lags.add(c);
        }
        for (int lag : lags) arg(in(lag, 0, 20));
        if (s.rises.size() == 6) return NONE;
        s.rises.add(lags);
        return s.rises.size() - 1;
    }

    long odds() {
        BigInteger u = BigInteger.ONE, l = BigInteger.ONE;
        for (List<Integer> r : s.rises) {
            for (int lag : r) {
                u = u.multiply(BigInteger.valueOf(s.weights[0][lag]));
                l = l.multiply(BigInteger.valueOf(s.weights[1][lag]));
            }
        }
        if (u.signum() == 0 && l.signum() != 0) l = BigInteger.ONE;
        if (l.signum() == 0 && u.signum() != 0) u = BigInteger.ONE;
        fraction(u, l);
        return 0;
    }

    /** {paid, filled on day, on the next ..}: the first of the least ones. */
    List<Long> filling(long[] price, int day, int tank, int f, Map<Integer, List<Long>> known) {
        if (day == price.length) return new ArrayList<>(List.of(0L));
        Integer key = 100 * day + f;
        if (known.containsKey(key)) return known.get(key);
        List<Long> best = null;
        for (long more = 0; f + more <= tank; more++) {
            if (f + more < 1) continue;
            List<Long> rest = filling(price, day + 1, tank, (int) (f + more - 1), known);
            List<Long> all = new ArrayList<>(List.of(rest.get(0) + more * price[day], more));
            all.addAll(rest.subList(1, rest.size()));
            if (best == null || all.get(0) < best.get(0)) best = all;
        }
        known.put(key, best);
        return best;
    }

    long fill(int tray, int tank, int f, int day) {
        needTray(tray);
        needRow(tray);
        arg(in(tank, 1, 12));
        arg(in(f, 0, tank));
        arg(trays[tray].length > 0);
        for (long p : trays[tray]) arg(in(p, 0, 99));
        if (day < NONE || day >= trays[tray].length) return NONE;
        return filling(trays[tray], 0, tank, f, new HashMap<>()).get(day + 1);
    }

    long told(int a, int b, int c, int d) {
        if (s.stations.isEmpty()) throw new IllegalStateException();
        int[] row = java.util.Arrays.copyOf(new int[] {a, b, c, d}, s.stations.size());
        for (int p : row) arg(in(p, 0, 99));
        if (s.told.size() == 60) return NONE;
        s.told.add(row);
        return s.told.size();
    }

    long fit(int station) {
        st(station);
        for (int k = 1; k < s.told.size(); k++) {
            if (decide(s.told, s.told.get(0), station, k) != s.told.get(k)[station]) return k;
        }
        return NONE;
    }

    // ---- trays, images

    long tray(int tray, int sort, int many) {
        needTray(tray);
        arg(in(sort, 0, 3) && in(many, 0, 28));
        trays[tray] = new long[many];
        sorts[tray] = sort;
        return 0;
    }

    long write(int tray, int place, long v) {
        needTray(tray);
        needRow(tray);
        if (place < 0 || place >= trays[tray].length) throw new IndexOutOfBoundsException();
        int drop = 64 - (8 << sorts[tray]);
        trays[tray][place] = v << drop >> drop;
        return trays[tray][place];
    }

    long image(int i) {
        if (i < 0 || i > 2) throw new NoSuchElementException();
        images[i] = s.copy();
        return 0;
    }

    long restore(int i) {
        if (i < 0 || i > 2) throw new NoSuchElementException();
        if (images[i] == null) throw new IllegalStateException();
        s = images[i].copy();
        return 0;
    }

    long count(int what) {
        long[] all = {s.stations.size(), s.kinds.size(), s.history.size(), boards().size(), s.levels.size(),
            s.rises.size(), s.told.size(), s.paid, tape.length(), s.changes.size()};
        return what >= 0 && what < all.length ? all[what] : NONE;
    }
}
