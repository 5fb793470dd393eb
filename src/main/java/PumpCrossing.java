import java.util.NoSuchElementException;

/** Pumps at one crossing; what each call must do is told by the document's numbered promises. */
public final class PumpCrossing {
    public static final int NONE = -1;

    private static final int MOST_STATIONS = 4;
    private static final int MOST_LATE = 3;
    private static final int MOST_PRICE = 99;
    private static final int MOST_KINDS = 6;
    private static final int MOST_MANY = 99;
    private static final int MOST_DETOUR = 20;
    private static final int MOST_HOURS = 3000;
    private static final int MOST_HOURS_A_CALL = 300;
    private static final int KEPT_BOARDS = 256;
    private static final int MOST_ROUND = 100;
    private static final int FOLLOWED_IN = 6;
    private static final int MOST_PASSING = 24;
    private static final int MOST_SINCE = 99;
    private static final int MOST_CHANGES = 10;
    private static final int MOST_LEVELS = 8;
    private static final int MOST_TURNS = 40;
    private static final int MOST_NIGHTS = 2000;
    private static final int MOST_NIGHTS_ABOVE = 300;
    private static final int MOST_SEEDS = 20;
    private static final int LAGS = 21;
    private static final int STORIES = 2;
    private static final int MOST_WEIGHT = 9;
    private static final int MOST_RISES = 6;
    private static final int LAGS_A_RISE = 3;
    private static final int MOST_TANK = 12;
    private static final int MOST_TOLD = 60;
    private static final int TRAYS = 4;
    private static final int SORTS = 4;
    private static final int TRAY_PLACES = 28;
    private static final int IMAGES = 3;

    private final Crossing now = new Crossing();
    private final Crossing[] images = new Crossing[IMAGES];
    private final TextReader reader = new TextReader();
    private final Trays trays = new Trays();
    private final Game game = new Game();
    private final Learners learners = new Learners();
    private long fractionUpper;
    private long fractionLower;

    public PumpCrossing() {
    }

    // ---- stations, drivers

    public int station(int cost, int price, int late) throws IllegalStateException, IllegalArgumentException {
        if (now.hours.rows > 0 || now.told.rows > 0) {
            throw new IllegalStateException("boards are there already");
        }
        needPrice(cost);
        needPrice(price);
        needWithin(late, 0, MOST_LATE);
        return now.addStation(cost, price, late);
    }

    public int driver(int many, int habit, int know, int detour)
            throws NoSuchElementException, IllegalArgumentException {
        needStation(habit);
        needWithin(many, 1, MOST_MANY);
        needWithin(know, 0, (1 << now.stations) - 1);
        needWithin(detour, 0, MOST_DETOUR);
        return now.drivers.add(many, habit, know, detour);
    }

    public int cost(int station, int v) throws NoSuchElementException, IllegalArgumentException {
        needStation(station);
        needPrice(v);
        int was = now.costs[station];
        if (v != was) {
            now.changes.add(station, now.hours.rows, v - was);
        }
        now.costs[station] = v;
        return was;
    }

    public int late(int station, int v) throws NoSuchElementException, IllegalArgumentException {
        needStation(station);
        needWithin(v, 0, MOST_LATE);
        int was = now.lates[station];
        now.lates[station] = v;
        return was;
    }

    // ---- texts

    public int feed(int a, int b, int c, int d, int e) {
        if (!reader.hasRoom()) {
            return NONE;
        }
        reader.append(a);
        reader.append(b);
        reader.append(c);
        reader.append(d);
        reader.append(e);
        return reader.onTape;
    }

    public int rules(int station, int n) throws NoSuchElementException, IllegalArgumentException {
        needStation(station);
        needWithin(n, 0, reader.onTape);
        reader.read(n, true);
        if (reader.faultKind == 0) {
            now.rules[station] = new Rules(reader);
        }
        return reader.answer();
    }

    public int law(int n) throws IllegalArgumentException {
        needWithin(n, 0, reader.onTape);
        reader.read(n, false);
        if (reader.faultKind == 0) {
            now.law = new Law(reader);
        }
        return reader.answer();
    }

    public int fault(int what) {
        switch (what) {
            case 0: return reader.faultKind;
            case 1: return reader.faultPlace;
            default: return NONE;
        }
    }

    // ---- hours

    public int run(int hours) throws IllegalArgumentException {
        needWithin(hours, 0, MOST_HOURS_A_CALL);
        int many = Math.min(hours, MOST_HOURS - now.hours.rows);
        for (int h = 0; h < many; h++) {
            now.runHour();
        }
        return many;
    }

    public int price(int station) throws NoSuchElementException {
        needStation(station);
        return now.priceNow(station);
    }

    public int board(int station, int t) throws NoSuchElementException {
        needStation(station);
        if (!now.hours.has(t)) {
            throw new NoSuchElementException("no such board");
        }
        return now.hours.at(station, t);
    }

    public int would(int station) throws NoSuchElementException {
        needStation(station);
        int t = now.hours.rows;
        return now.decide(now.hours, station, t, sinceIn(t, now.changedIn[station]));
    }

    public long of(int station, int what) throws NoSuchElementException, IllegalArgumentException {
        needStation(station);
        switch (what) {
            case 0: return now.profit[station];
            case 1: return now.sold[station];
            case 2: return sinceIn(now.hours.rows, now.changedIn[station]);
            default: throw new IllegalArgumentException("no such number of a station");
        }
    }

    public int fills(int kind) throws NoSuchElementException {
        if (kind < 0 || kind >= now.drivers.kinds) {
            throw new NoSuchElementException("no such kind of drivers");
        }
        now.takePricesNow(now.row);
        return now.drivers.placeOf(kind, now.row, now.known());
    }

    public int round() {
        return now.hours.leastRound(now.stations);
    }

    public int leads(int station, boolean followed) throws NoSuchElementException {
        needStation(station);
        int many = 0;
        for (int t = now.hours.first() + 2; t < now.hours.rows; t++) {
            if (now.hours.isLead(station, t, now.stations)
                    && (!followed || now.hours.isFollowed(station, t, now.stations))) {
                many++;
            }
        }
        return many;
    }

    public boolean passed(int station, int n, boolean up) throws NoSuchElementException, IllegalArgumentException {
        needStation(station);
        needWithin(n, 1, MOST_PASSING);
        long changed = 0;
        long went = 0;
        for (int k = 0; k < now.changes.many; k++) {
            if (now.changes.counts(k, station, n, up, now.hours)) {
                changed += Math.abs(now.changes.by[k]);
                went += now.changes.wentAlong(k, n, now.hours);
            }
        }
        if (changed == 0) {
            return false;
        }
        setFraction(went, changed);
        return true;
    }

    public long upper() {
        return fractionUpper;
    }

    public long lower() {
        return fractionLower;
    }

    // ---- games

    public int level(int price) throws IllegalArgumentException {
        needPrice(price);
        if (now.levelsMany > 0 && price <= now.levels[now.levelsMany - 1]) {
            throw new IllegalArgumentException("not above the level ahead");
        }
        return now.addLevel(price);
    }

    public int gain(int a, int b, int i, int j, boolean other)
            throws NoSuchElementException, IllegalArgumentException, IndexOutOfBoundsException {
        needTwo(a, b);
        needLevel(i);
        needLevel(j);
        game.begin(now, a, b);
        return other ? game.gainB[i][j] : game.gainA[i][j];
    }

    public int reply(int a, int b, int j)
            throws NoSuchElementException, IllegalArgumentException, IndexOutOfBoundsException {
        needTwo(a, b);
        needLevel(j);
        game.begin(now, a, b);
        return game.replyOfA(j);
    }

    public int even(int a, int b, int k) throws NoSuchElementException, IllegalArgumentException {
        needTwo(a, b);
        game.begin(now, a, b);
        return k == NONE ? game.evenPairs() : game.evenPair(k);
    }

    public int joint(int a, int b) throws NoSuchElementException, IllegalArgumentException {
        needTwo(a, b);
        game.begin(now, a, b);
        return game.jointPair();
    }

    public int turn(int a, int b, int j, int h, int k)
            throws NoSuchElementException, IllegalArgumentException, IndexOutOfBoundsException {
        needTurns(a, b, j, h);
        if (k < 0 || k >= h) {
            return NONE;
        }
        game.begin(now, a, b);
        game.foresee(h);
        return game.setInTurn(j, k);
    }

    public long gains(int a, int b, int j, int h, boolean other)
            throws NoSuchElementException, IllegalArgumentException, IndexOutOfBoundsException {
        needTurns(a, b, j, h);
        game.begin(now, a, b);
        game.foresee(h);
        return other ? game.waiterSums[0][j] : game.moverSums[0][j];
    }

    public int learn(int a, int b, int n, int seed) throws NoSuchElementException, IllegalArgumentException {
        needTwo(a, b);
        needWithin(n, 1, MOST_NIGHTS);
        if (now.levelsMany == 0) {
            return NONE;
        }
        game.begin(now, a, b);
        learners.letGo(game, n, seed);
        return pair(learners.levelA, learners.levelB);
    }

    public int above(int a, int b, int n, int many) throws NoSuchElementException, IllegalArgumentException {
        needTwo(a, b);
        needWithin(n, 1, MOST_NIGHTS_ABOVE);
        needWithin(many, 1, MOST_SEEDS);
        game.begin(now, a, b);
        int even = game.evenPair(0);
        if (even == NONE) {
            return NONE;
        }
        int atEven = game.together(even / 10, even % 10);
        int over = 0;
        for (int seed = 1; seed <= many; seed++) {
            learners.letGo(game, n, seed);
            if (game.together(learners.levelA, learners.levelB) > atEven) {
                over++;
            }
        }
        return over;
    }

    public int punish(int a, int b, int n, int seed, int d)
            throws NoSuchElementException, IllegalArgumentException, IndexOutOfBoundsException {
        needTwo(a, b);
        needWithin(n, 1, MOST_NIGHTS);
        needLevel(d);
        game.begin(now, a, b);
        learners.letGo(game, n, seed);
        return learners.answerOfB(d);
    }

    // ---- stories, filling, told boards

    public boolean story(int story, int tray) throws NoSuchElementException, IllegalStateException {
        if (story < 0 || story >= STORIES) {
            throw new NoSuchElementException("no such story");
        }
        needTray(tray);
        needFilledTray(tray);
        if (trays.lengths[tray] != LAGS || !trays.allWithin(tray, MOST_WEIGHT)) {
            return false;
        }
        now.stories.setWeights(story, trays.numbers[tray]);
        return true;
    }

    public int rise(int a, int b, int c) throws IllegalArgumentException {
        needWithin(a, 0, LAGS - 1);
        int further = b == NONE ? NONE : c;
        if (b != NONE) {
            needWithin(b, 0, LAGS - 1);
        }
        if (further != NONE) {
            needWithin(further, 0, LAGS - 1);
        }
        return now.stories.addRise(a, b, further);
    }

    public void odds() {
        setFraction(now.stories.product(0), now.stories.product(1));
    }

    public int fill(int tray, int tank, int f, int day)
            throws NoSuchElementException, IllegalStateException, IllegalArgumentException {
        needTray(tray);
        needFilledTray(tray);
        needWithin(tank, 1, MOST_TANK);
        needWithin(f, 0, tank);
        int days = trays.lengths[tray];
        if (days < 1 || !trays.allWithin(tray, MOST_PRICE)) {
            throw new IllegalArgumentException("not a row of prices");
        }
        if (day < NONE || day >= days) {
            return NONE;
        }
        trays.planFilling(tray, tank);
        return day == NONE ? trays.leastPaid(f) : trays.filledOn(day, f);
    }

    public int told(int a, int b, int c, int d) throws IllegalStateException, IllegalArgumentException {
        if (now.stations == 0) {
            throw new IllegalStateException("there is no station");
        }
        int[] row = now.row;
        row[0] = a;
        row[1] = b;
        row[2] = c;
        row[3] = d;
        for (int s = 0; s < now.stations; s++) {
            needPrice(row[s]);
        }
        return now.addTold(row);
    }

    public int fit(int station) throws NoSuchElementException {
        needStation(station);
        return now.firstMisfit(station);
    }

    // ---- trays, images

    public void tray(int tray, int sort, int many) throws NoSuchElementException, IllegalArgumentException {
        needTray(tray);
        needWithin(sort, 0, SORTS - 1);
        needWithin(many, 0, TRAY_PLACES);
        trays.clear(tray, sort, many);
    }

    public long write(int tray, int place, long v)
            throws NoSuchElementException, IllegalStateException, IndexOutOfBoundsException {
        needTray(tray);
        needFilledTray(tray);
        if (place < 0 || place >= trays.lengths[tray]) {
            throw new IndexOutOfBoundsException("no such place");
        }
        return trays.put(tray, place, v);
    }

    public void image(int i) throws NoSuchElementException {
        needImage(i);
        if (images[i] == null) {
            images[i] = new Crossing();
        }
        images[i].copyFrom(now);
    }

    public void restore(int i) throws NoSuchElementException, IllegalStateException {
        needImage(i);
        if (images[i] == null) {
            throw new IllegalStateException("no image was made");
        }
        now.copyFrom(images[i]);
    }

    public long count(int what) {
        switch (what) {
            case 0: return now.stations;
            case 1: return now.drivers.kinds;
            case 2: return now.hours.rows;
            case 3: return now.hours.kept();
            case 4: return now.levelsMany;
            case 5: return now.stories.rises;
            case 6: return now.told.rows;
            case 7: return now.paid;
            case 8: return reader.onTape;
            case 9: return now.changes.many;
            default: return NONE;
        }
    }

    // ---- what the calls share

    private void needStation(int station) {
        if (station < 0 || station >= now.stations) {
            throw new NoSuchElementException("no such station");
        }
    }

    private void needTwo(int a, int b) {
        needStation(a);
        needStation(b);
        if (a == b) {
            throw new IllegalArgumentException("a game is of two stations");
        }
    }

    private void needTurns(int a, int b, int j, int h) {
        needTwo(a, b);
        needWithin(h, 1, MOST_TURNS);
        needLevel(j);
    }

    private void needLevel(int level) {
        if (level < 0 || level >= now.levelsMany) {
            throw new IndexOutOfBoundsException("no such level");
        }
    }

    private void needTray(int tray) {
        if (tray < 0 || tray >= TRAYS) {
            throw new NoSuchElementException("no such tray");
        }
    }

    private void needFilledTray(int tray) {
        if (trays.isMissing(tray)) {
            throw new IllegalStateException("the tray is missing");
        }
    }

    private void needImage(int i) {
        if (i < 0 || i >= IMAGES) {
            throw new NoSuchElementException("no such image");
        }
    }

    private void needPrice(int v) {
        needWithin(v, 0, MOST_PRICE);
    }

    private void needWithin(int v, int least, int most) {
        if (v < least || v > most) {
            throw new IllegalArgumentException("a number is out of its bounds");
        }
    }

    private void setFraction(long up, long low) {
        long common = commonDivisor(up, low);
        fractionUpper = common == 0 ? 0 : up / common;
        fractionLower = common == 0 ? 0 : low / common;
    }

    private static long commonDivisor(long one, long other) {
        // Longs need fewer than a hundred of Euclid's steps.
        for (int step = 0; step < 100 && other != 0; step++) {
            long rest = one % other;
            one = other;
            other = rest;
        }
        return one;
    }

    private static int pair(int i, int j) {
        return 10 * i + j;
    }

    private static int sinceIn(int t, int changedIn) {
        int since = changedIn == NONE ? t + 1 : t - changedIn;
        return Math.min(since, MOST_SINCE);
    }

    /** All that an image keeps. */
    private static final class Crossing {
        int stations;
        final int[] costs = new int[MOST_STATIONS];
        final int[] lates = new int[MOST_STATIONS];
        final int[] changedIn = new int[MOST_STATIONS];
        final long[] profit = new long[MOST_STATIONS];
        final long[] sold = new long[MOST_STATIONS];
        long paid;
        final Rules[] rules = new Rules[MOST_STATIONS];
        Law law;
        final Drivers drivers = new Drivers();
        final Boards hours = new Boards(KEPT_BOARDS);
        final Boards told = new Boards(MOST_TOLD);
        final CostChanges changes = new CostChanges();
        final int[] levels = new int[MOST_LEVELS];
        int levelsMany;
        final Stories stories = new Stories();
        final int[] row = new int[MOST_STATIONS];
        final int[] seen = new int[Rules.TERMS];

        Crossing() {
        }

        void copyFrom(Crossing from) {
            stations = from.stations;
            paid = from.paid;
            law = from.law;
            levelsMany = from.levelsMany;
            System.arraycopy(from.costs, 0, costs, 0, MOST_STATIONS);
            System.arraycopy(from.lates, 0, lates, 0, MOST_STATIONS);
            System.arraycopy(from.changedIn, 0, changedIn, 0, MOST_STATIONS);
            System.arraycopy(from.profit, 0, profit, 0, MOST_STATIONS);
            System.arraycopy(from.sold, 0, sold, 0, MOST_STATIONS);
            System.arraycopy(from.levels, 0, levels, 0, MOST_LEVELS);
            for (int s = 0; s < MOST_STATIONS; s++) {
                rules[s] = from.rules[s];
            }
            drivers.copyFrom(from.drivers);
            hours.copyFrom(from.hours);
            told.copyFrom(from.told);
            changes.copyFrom(from.changes);
            stories.copyFrom(from.stories);
        }

        int addStation(int cost, int price, int late) {
            if (stations >= MOST_STATIONS) {
                return NONE;
            }
            int station = stations++;
            costs[station] = cost;
            lates[station] = late;
            changedIn[station] = NONE;
            hours.ahead[station] = price;
            return station;
        }

        int addLevel(int price) {
            if (levelsMany >= MOST_LEVELS) {
                return NONE;
            }
            levels[levelsMany] = price;
            return levelsMany++;
        }

        int addTold(int[] prices) {
            if (told.rows >= MOST_TOLD) {
                return NONE;
            }
            if (told.rows == 0) {
                System.arraycopy(prices, 0, told.ahead, 0, MOST_STATIONS);
            }
            told.add(prices);
            return told.rows;
        }

        int priceNow(int station) {
            return hours.at(station, hours.rows - 1);
        }

        void takePricesNow(int[] into) {
            for (int s = 0; s < stations; s++) {
                into[s] = priceNow(s);
            }
        }

        /** The set of stations that every kind knows besides its own. */
        int known() {
            return law != null && law.told ? (1 << stations) - 1 : 0;
        }

        void runHour() {
            int t = hours.rows;
            for (int s = 0; s < stations; s++) {
                row[s] = decide(hours, s, t, sinceIn(t, changedIn[s]));
            }
            for (int s = 0; s < stations; s++) {
                if (row[s] != priceNow(s)) {
                    changedIn[s] = t;
                }
            }
            hours.add(row);
            int known = known();
            for (int kind = 0; kind < drivers.kinds; kind++) {
                sell(drivers.placeOf(kind, row, known), drivers.many[kind]);
            }
        }

        private void sell(int station, int many) {
            profit[station] += many * (row[station] - costs[station]);
            sold[station] += many;
            paid += many * row[station];
        }

        /** What rules and the law make of a station's price in hour t of such boards. */
        int decide(Boards boards, int station, int t, int since) {
            look(boards, station, t, since);
            Rules own = rules[station];
            int wanted = own == null ? seen[Rules.SEEN_OWN] : own.wanted(seen);
            return law == null ? Law.bounded(wanted) : law.allowed(wanted, seen);
        }

        private void look(Boards boards, int station, int t, int since) {
            seen[Rules.SEEN_OWN] = boards.at(station, t - 1);
            seen[Rules.SEEN_COST] = costs[station];
            seen[Rules.SEEN_HOUR] = t % 24;
            seen[Rules.SEEN_DAY] = t / 24 % 7;
            seen[Rules.SEEN_SINCE] = since;
            lookAtOthers(boards, station, t - 1 - lates[station]);
        }

        private void lookAtOthers(Boards boards, int station, int behind) {
            int least = MOST_PRICE + 1;
            int most = NONE;
            int rose = 0;
            int fell = 0;
            for (int s = 0; s < stations; s++) {
                if (s != station) {
                    int price = boards.at(s, behind);
                    int before = boards.at(s, behind - 1);
                    least = Math.min(least, price);
                    most = Math.max(most, price);
                    rose += price > before ? 1 : 0;
                    fell += price < before ? 1 : 0;
                }
            }
            boolean alone = most == NONE;
            seen[Rules.SEEN_LEAST] = alone ? seen[Rules.SEEN_OWN] : least;
            seen[Rules.SEEN_MOST] = alone ? seen[Rules.SEEN_OWN] : most;
            seen[Rules.SEEN_ROSE] = rose;
            seen[Rules.SEEN_FELL] = fell;
        }

        int firstMisfit(int station) {
            int changed = NONE;
            for (int k = 1; k < told.rows; k++) {
                int price = told.at(station, k);
                if (price != decide(told, station, k, sinceIn(k, changed))) {
                    return k;
                }
                if (price != told.at(station, k - 1)) {
                    changed = k;
                }
            }
            return NONE;
        }
    }

    /** Rows of prices by hours, of which the latest are kept, with the prices ahead of the first. */
    private static final class Boards {
        final int capacity;
        final int[] prices;
        final int[] ahead = new int[MOST_STATIONS];
        int rows;

        Boards(int capacity) {
            this.capacity = capacity;
            prices = new int[capacity * MOST_STATIONS];
        }

        void copyFrom(Boards from) {
            rows = from.rows;
            System.arraycopy(from.ahead, 0, ahead, 0, MOST_STATIONS);
            int used = Math.min(from.kept() * MOST_STATIONS, prices.length);
            System.arraycopy(from.prices, 0, prices, 0, used);
        }

        int kept() {
            return Math.min(rows, capacity);
        }

        int first() {
            return rows - kept();
        }

        boolean has(int t) {
            return t >= first() && t < rows;
        }

        int at(int station, int t) {
            return t < 0 ? ahead[station] : prices[t % capacity * MOST_STATIONS + station];
        }

        void add(int[] row) {
            System.arraycopy(row, 0, prices, rows % capacity * MOST_STATIONS, MOST_STATIONS);
            rows++;
        }

        int leastRound(int stations) {
            for (int p = 1; p <= MOST_ROUND && 2 * p <= kept(); p++) {
                if (isRound(p, stations)) {
                    return p;
                }
            }
            return NONE;
        }

        private boolean isRound(int p, int stations) {
            for (int t = rows - p; t < rows; t++) {
                for (int s = 0; s < stations; s++) {
                    if (at(s, t) != at(s, t - p)) {
                        return false;
                    }
                }
            }
            return true;
        }

        private boolean wentUp(int station, int t) {
            return at(station, t) > at(station, t - 1);
        }

        boolean isLead(int station, int t, int stations) {
            for (int s = 0; s < stations; s++) {
                if (wentUp(s, t) != (s == station) || wentUp(s, t - 1)) {
                    return false;
                }
            }
            return true;
        }

        boolean isFollowed(int station, int t, int stations) {
            if (!has(t + FOLLOWED_IN)) {
                return false;
            }
            for (int s = 0; s < stations; s++) {
                if (s != station && !wentUpBehind(s, t)) {
                    return false;
                }
            }
            return true;
        }

        private boolean wentUpBehind(int station, int t) {
            for (int later = t + 1; later <= t + FOLLOWED_IN; later++) {
                if (wentUp(station, later)) {
                    return true;
                }
            }
            return false;
        }
    }

    /** The latest changes of costs, of all stations. */
    private static final class CostChanges {
        final int[] station = new int[MOST_CHANGES];
        final int[] hour = new int[MOST_CHANGES];
        final int[] by = new int[MOST_CHANGES];
        int many;

        CostChanges() {
        }

        void copyFrom(CostChanges from) {
            many = from.many;
            System.arraycopy(from.station, 0, station, 0, MOST_CHANGES);
            System.arraycopy(from.hour, 0, hour, 0, MOST_CHANGES);
            System.arraycopy(from.by, 0, by, 0, MOST_CHANGES);
        }

        void add(int changed, int nextHour, int difference) {
            if (many == MOST_CHANGES) {
                dropOldest();
            }
            station[many] = changed;
            hour[many] = nextHour;
            by[many] = difference;
            many++;
        }

        private void dropOldest() {
            many--;
            System.arraycopy(station, 1, station, 0, many);
            System.arraycopy(hour, 1, hour, 0, many);
            System.arraycopy(by, 1, by, 0, many);
        }

        boolean counts(int k, int of, int n, boolean up, Boards boards) {
            return station[k] == of && (by[k] > 0) == up
                    && boards.has(hour[k] - 1) && boards.has(hour[k] - 1 + n);
        }

        /** By how much the price went the way of the cost in n hours. */
        int wentAlong(int k, int n, Boards boards) {
            int from = boards.at(station[k], hour[k] - 1);
            int to = boards.at(station[k], hour[k] - 1 + n);
            return Math.max(0, by[k] > 0 ? to - from : from - to);
        }
    }

    /** Kinds of drivers, and where each fills. */
    private static final class Drivers {
        int kinds;
        final int[] many = new int[MOST_KINDS];
        final int[] habits = new int[MOST_KINDS];
        final int[] knows = new int[MOST_KINDS];
        final int[] detours = new int[MOST_KINDS];

        Drivers() {
        }

        void copyFrom(Drivers from) {
            kinds = from.kinds;
            System.arraycopy(from.many, 0, many, 0, MOST_KINDS);
            System.arraycopy(from.habits, 0, habits, 0, MOST_KINDS);
            System.arraycopy(from.knows, 0, knows, 0, MOST_KINDS);
            System.arraycopy(from.detours, 0, detours, 0, MOST_KINDS);
        }

        int add(int howMany, int habit, int know, int detour) {
            if (kinds >= MOST_KINDS) {
                return NONE;
            }
            many[kinds] = howMany;
            habits[kinds] = habit;
            knows[kinds] = know;
            detours[kinds] = detour;
            return kinds++;
        }

        /** Where a kind fills by such prices, when all know the told set besides. */
        int placeOf(int kind, int[] prices, int toldToAll) {
            int place = habits[kind];
            int least = prices[place];
            int known = knows[kind] | toldToAll;
            for (int s = 0; s < MOST_STATIONS; s++) {
                boolean asked = s != habits[kind] && (known >> s & 1) == 1;
                if (asked && prices[s] + detours[kind] < least) {
                    least = prices[s] + detours[kind];
                    place = s;
                }
            }
            return place;
        }

        /** How many fill at a station in an hour by such prices. */
        int soldAt(int station, int[] prices, int toldToAll) {
            int sum = 0;
            for (int kind = 0; kind < kinds; kind++) {
                if (placeOf(kind, prices, toldToAll) == station) {
                    sum += many[kind];
                }
            }
            return sum;
        }
    }

    /** The tape, and the reading of its bytes as rules or as the law. */
    private static final class TextReader {
        static final int MOST_BYTES = 400;
        static final int BYTES_A_FEED = 20;
        static final int MOST_RULES = 12;
        static final int MOST_NOTS = 4;

        // A token's code: a sign is its byte, a word FIRST_WORD and its rank in WORDS, N is NUMBER and N.
        static final int END = 0;
        static final int FIRST_WORD = 100;
        static final int NUMBER = 200;
        static final int UNKNOWN_WORD = -1;
        static final int NO_TOKEN = -2;
        static final String WORDS = "up down to below match keep when or and not own least most cost hour day since rose fell once at cap told ";
        static final int UP = 100;
        static final int DOWN = 101;
        static final int TO = 102;
        static final int BELOW = 103;
        static final int MATCH = 104;
        static final int KEEP = 105;
        static final int WHEN = 106;
        static final int OR = 107;
        static final int AND = 108;
        static final int NOT = 109;
        static final int OWN = 110;
        static final int COST = 113;
        static final int FELL = 118;
        static final int ONCE = 119;
        static final int AT = 120;
        static final int CAP = 121;
        static final int TOLD = 122;

        // What may come next.
        static final int REFUSED = -1;
        static final int BEGIN = 0;
        static final int AMOUNT = 1;
        static final int WHEN_OR_CLOSE = 2;
        static final int CLAIM = 3;
        static final int LEFT_TERM = 4;
        static final int BEHIND_LEFT_TERM = 5;
        static final int RIGHT_TERM = 6;
        static final int BEHIND_RIGHT_TERM = 7;
        static final int ONCE_AMOUNT = 8;
        static final int AT_AMOUNT = 9;
        static final int CLOSE = 10;

        final byte[] tape = new byte[MOST_BYTES];
        int onTape;
        final int[] tokens = new int[MOST_BYTES];
        int tokensMany;
        final int[] starts = new int[MOST_RULES];
        int unitsMany;
        int faultKind;
        int faultPlace = NONE;
        int tokenPlace;
        int tokenEnd;
        int openNots;

        TextReader() {
        }

        boolean hasRoom() {
            return onTape + BYTES_A_FEED <= MOST_BYTES;
        }

        void append(int four) {
            for (int shift = 24; shift >= 0 && onTape < MOST_BYTES; shift -= 8) {
                tape[onTape] = (byte) (four >> shift);
                onTape++;
            }
        }

        /** How many rules or lines there are, or which fault. */
        int answer() {
            return faultKind == 0 ? unitsMany : -10 - faultKind;
        }

        /** Reads the first n bytes up to the first fault and empties the tape. */
        void read(int n, boolean asRules) {
            tokensMany = 0;
            unitsMany = 0;
            tokenEnd = 0;
            openNots = 0;
            onTape = 0;
            faultKind = 0;
            faultPlace = NONE;
            int state = BEGIN;
            for (int step = 0; step <= MOST_BYTES; step++) {
                int token = nextToken(n);
                int next = asRules ? behindInRules(state, token) : behindInLaw(state, token);
                faultKind = faultOf(token, state, next, asRules);
                if (faultKind != 0) {
                    faultPlace = tokenPlace;
                    return;
                }
                if (token == END) {
                    return;
                }
                keepToken(token, state);
                state = next;
            }
        }

        private void keepToken(int token, int state) {
            if (state == BEGIN) {
                if (unitsMany < MOST_RULES) {
                    starts[unitsMany] = tokensMany;
                }
                unitsMany++;
            }
            openNots = token == NOT ? openNots + 1 : 0;
            if (tokensMany < MOST_BYTES) {
                tokens[tokensMany] = token;
                tokensMany++;
            }
        }

        private int faultOf(int token, int state, int next, boolean asRules) {
            if (token == NO_TOKEN) {
                return 1;
            }
            if (next == REFUSED) {
                return 2;
            }
            if (state == ONCE_AMOUNT && token == NUMBER || state == AT_AMOUNT && token > NUMBER + 23) {
                return 3;
            }
            boolean ruleTooMany = asRules && state == BEGIN && token != END && unitsMany == MOST_RULES;
            boolean notTooDeep = token == NOT && openNots == MOST_NOTS;
            return ruleTooMany || notTooDeep ? 4 : 0;
        }

        private static int behindInRules(int state, int token) {
            switch (state) {
                case BEGIN:
                    return token == END ? BEGIN : takesAmount(token) ? AMOUNT
                            : token == MATCH || token == KEEP ? WHEN_OR_CLOSE : REFUSED;
                case AMOUNT:
                    return token >= NUMBER ? WHEN_OR_CLOSE : REFUSED;
                case WHEN_OR_CLOSE:
                    return token == WHEN ? CLAIM : token == ';' ? BEGIN : REFUSED;
                case CLAIM:
                    return token == NOT ? CLAIM : isTerm(token) ? BEHIND_LEFT_TERM : REFUSED;
                case LEFT_TERM:
                    return isTerm(token) ? BEHIND_LEFT_TERM : REFUSED;
                case BEHIND_LEFT_TERM:
                    return isPlusOrMinus(token) ? LEFT_TERM : isRelation(token) ? RIGHT_TERM : REFUSED;
                case RIGHT_TERM:
                    return isTerm(token) ? BEHIND_RIGHT_TERM : REFUSED;
                case BEHIND_RIGHT_TERM:
                    return isPlusOrMinus(token) ? RIGHT_TERM
                            : token == AND || token == OR ? CLAIM : token == ';' ? BEGIN : REFUSED;
                default:
                    return REFUSED;
            }
        }

        private static int behindInLaw(int state, int token) {
            switch (state) {
                case BEGIN:
                    return token == END ? BEGIN : token == ONCE ? ONCE_AMOUNT : token == AT ? AT_AMOUNT
                            : token == CAP ? AMOUNT : token == TOLD || token == COST ? CLOSE : REFUSED;
                case AMOUNT:
                case ONCE_AMOUNT:
                case AT_AMOUNT:
                    return token >= NUMBER ? CLOSE : REFUSED;
                case CLOSE:
                    return token == ';' ? BEGIN : REFUSED;
                default:
                    return REFUSED;
            }
        }

        static boolean takesAmount(int token) {
            return token >= UP && token <= BELOW;
        }

        static boolean isTerm(int token) {
            return token >= NUMBER || token >= OWN && token <= FELL;
        }

        static boolean isPlusOrMinus(int token) {
            return token == '+' || token == '-';
        }

        static boolean isRelation(int token) {
            return token == '<' || token == '=' || token == '>';
        }

        private int nextToken(int n) {
            tokenPlace = tokenEnd;
            while (tokenPlace < n && (tape[tokenPlace] == ' ' || tape[tokenPlace] == '\n')) {
                tokenPlace++;
            }
            tokenEnd = tokenPlace;
            if (tokenPlace >= n) {
                return END;
            }
            byte first = tape[tokenPlace];
            if (isLetter(first)) {
                while (tokenEnd < n && isLetter(tape[tokenEnd])) {
                    tokenEnd++;
                }
                return codeOfWord();
            }
            if (isDigit(first)) {
                while (tokenEnd < n && isDigit(tape[tokenEnd])) {
                    tokenEnd++;
                }
                return codeOfNumber();
            }
            tokenEnd++;
            return first == ';' || isPlusOrMinus(first) || isRelation(first) ? first : NO_TOKEN;
        }

        private static boolean isLetter(byte sign) {
            return sign >= 'a' && sign <= 'z';
        }

        private static boolean isDigit(byte sign) {
            return sign >= '0' && sign <= '9';
        }

        private int codeOfNumber() {
            int digits = tokenEnd - tokenPlace;
            if (digits > 2) {
                return NO_TOKEN;
            }
            int number = 0;
            for (int at = tokenPlace; at < tokenEnd; at++) {
                number = 10 * number + tape[at] - '0';
            }
            return NUMBER + number;
        }

        private int codeOfWord() {
            int code = FIRST_WORD;
            int at = tokenPlace;
            boolean same = true;
            for (int k = 0; k < WORDS.length(); k++) {
                char sign = WORDS.charAt(k);
                if (sign != ' ') {
                    same = same && at < tokenEnd && tape[at] == sign;
                    at++;
                } else if (same && at == tokenEnd) {
                    return code;
                } else {
                    code++;
                    at = tokenPlace;
                    same = true;
                }
            }
            return UNKNOWN_WORD;
        }
    }

    /** A station's rules, never changed once they are read, so that images may share them. */
    private static final class Rules {
        // Where a row of what a station sees has each term, in the order of their codes from OWN to FELL.
        static final int SEEN_OWN = 0;
        static final int SEEN_LEAST = 1;
        static final int SEEN_MOST = 2;
        static final int SEEN_COST = 3;
        static final int SEEN_HOUR = 4;
        static final int SEEN_DAY = 5;
        static final int SEEN_SINCE = 6;
        static final int SEEN_ROSE = 7;
        static final int SEEN_FELL = 8;
        static final int TERMS = 9;

        private final int[] tokens;
        private final int[] starts;

        Rules(TextReader reader) {
            tokens = new int[reader.tokensMany];
            System.arraycopy(reader.tokens, 0, tokens, 0, tokens.length);
            starts = new int[Math.min(reader.unitsMany, TextReader.MOST_RULES)];
            System.arraycopy(reader.starts, 0, starts, 0, starts.length);
        }

        private int token(int at) {
            return at >= 0 && at < tokens.length ? tokens[at] : TextReader.END;
        }

        /** The price that the first rule that holds asks for. */
        int wanted(int[] seen) {
            for (int r = 0; r < starts.length; r++) {
                int deed = token(starts[r]);
                int behind = starts[r] + (TextReader.takesAmount(deed) ? 2 : 1);
                if (token(behind) != TextReader.WHEN || holds(behind + 1, seen)) {
                    return priceBy(deed, token(starts[r] + 1) - TextReader.NUMBER, seen);
                }
            }
            return seen[SEEN_OWN];
        }

        private static int priceBy(int deed, int amount, int[] seen) {
            switch (deed) {
                case TextReader.UP: return seen[SEEN_OWN] + amount;
                case TextReader.DOWN: return seen[SEEN_OWN] - amount;
                case TextReader.TO: return amount;
                case TextReader.BELOW: return seen[SEEN_LEAST] - amount;
                case TextReader.MATCH: return seen[SEEN_LEAST];
                default: return seen[SEEN_OWN];
            }
        }

        /** Whether the claims from a token on to the rule's end are so. */
        private boolean holds(int from, int[] seen) {
            boolean all = true;
            boolean negated = false;
            int relation = TextReader.END;
            int left = 0;
            int sum = 0;
            int factor = 1;
            for (int at = from; at < tokens.length; at++) {
                int token = tokens[at];
                if (TextReader.isTerm(token)) {
                    sum += factor * valueOf(token, seen);
                } else if (TextReader.isPlusOrMinus(token)) {
                    factor = token == '+' ? 1 : -1;
                } else if (token == TextReader.NOT) {
                    negated = !negated;
                } else if (TextReader.isRelation(token)) {
                    relation = token;
                    left = sum;
                    sum = 0;
                    factor = 1;
                } else {
                    all = all && isSo(left, relation, sum) != negated;
                    if (token != TextReader.AND && all) {
                        return true;
                    }
                    if (token == ';') {
                        return false;
                    }
                    all = all || token == TextReader.OR;
                    negated = false;
                    sum = 0;
                    factor = 1;
                }
            }
            return false;
        }

        private static int valueOf(int token, int[] seen) {
            return token >= TextReader.NUMBER ? token - TextReader.NUMBER : seen[token - TextReader.OWN];
        }

        private static boolean isSo(int left, int relation, int right) {
            return relation == '<' ? left < right : relation == '>' ? left > right : left == right;
        }
    }

    /** The law, never changed once it is read, so that images may share it. */
    private static final class Law {
        private final int once;
        private final int hours;
        private final int cap;
        private final boolean cost;
        final boolean told;

        Law(TextReader reader) {
            int lastOnce = 0;
            int lastCap = NONE;
            int allHours = 0;
            boolean costTold = false;
            boolean toldTold = false;
            for (int at = 0; at < reader.tokensMany; at++) {
                int amount = at + 1 < reader.tokensMany ? reader.tokens[at + 1] - TextReader.NUMBER : 0;
                switch (reader.tokens[at]) {
                    case TextReader.ONCE: lastOnce = amount; break;
                    case TextReader.CAP: lastCap = amount; break;
                    case TextReader.AT: allHours |= 1 << amount; break;
                    case TextReader.COST: costTold = true; break;
                    case TextReader.TOLD: toldTold = true; break;
                    default: break;
                }
            }
            once = lastOnce;
            cap = lastCap;
            hours = allHours;
            cost = costTold;
            told = toldTold;
        }

        /** What the law makes of a wanted price. */
        int allowed(int wanted, int[] seen) {
            int own = seen[Rules.SEEN_OWN];
            int price = cap == NONE ? wanted : Math.min(wanted, own + cap);
            if (cost && price != own) {
                price = Math.max(price, seen[Rules.SEEN_COST]);
            }
            boolean hourIsTold = hours == 0 || (hours >> seen[Rules.SEEN_HOUR] & 1) == 1;
            return hourIsTold && seen[Rules.SEEN_SINCE] >= once ? bounded(price) : own;
        }

        static int bounded(int price) {
            return Math.max(0, Math.min(price, MOST_PRICE));
        }
    }

    /** A game of two stations by levels: a's level comes first in each index. */
    private static final class Game {
        int levels;
        final int[][] gainA = new int[MOST_LEVELS][MOST_LEVELS];
        final int[][] gainB = new int[MOST_LEVELS][MOST_LEVELS];
        final int[] prices = new int[MOST_STATIONS];
        // By turn and by where the other one stands: what the mover sets, its sum and the other's from there on.
        final int[][] choices = new int[MOST_TURNS][MOST_LEVELS];
        final int[][] moverSums = new int[MOST_TURNS + 1][MOST_LEVELS];
        final int[][] waiterSums = new int[MOST_TURNS + 1][MOST_LEVELS];

        Game() {
        }

        void begin(Crossing crossing, int a, int b) {
            levels = crossing.levelsMany;
            crossing.takePricesNow(prices);
            int known = crossing.known();
            for (int i = 0; i < levels; i++) {
                for (int j = 0; j < levels; j++) {
                    prices[a] = crossing.levels[i];
                    prices[b] = crossing.levels[j];
                    gainA[i][j] = crossing.drivers.soldAt(a, prices, known) * (prices[a] - crossing.costs[a]);
                    gainB[i][j] = crossing.drivers.soldAt(b, prices, known) * (prices[b] - crossing.costs[b]);
                }
            }
        }

        int together(int i, int j) {
            return gainA[i][j] + gainB[i][j];
        }

        int replyOfA(int j) {
            int best = 0;
            for (int i = 1; i < levels; i++) {
                if (gainA[i][j] > gainA[best][j]) {
                    best = i;
                }
            }
            return best;
        }

        private boolean isEven(int i, int j) {
            for (int k = 0; k < levels; k++) {
                if (gainA[k][j] > gainA[i][j] || gainB[i][k] > gainB[i][j]) {
                    return false;
                }
            }
            return true;
        }

        int evenPairs() {
            int many = 0;
            for (int i = 0; i < levels; i++) {
                for (int j = 0; j < levels; j++) {
                    many += isEven(i, j) ? 1 : 0;
                }
            }
            return many;
        }

        int evenPair(int k) {
            int before = 0;
            for (int i = 0; i < levels; i++) {
                for (int j = 0; j < levels; j++) {
                    if (isEven(i, j)) {
                        if (before == k) {
                            return pair(i, j);
                        }
                        before++;
                    }
                }
            }
            return NONE;
        }

        int jointPair() {
            int best = NONE;
            int most = 0;
            for (int i = 0; i < levels; i++) {
                for (int j = 0; j < levels; j++) {
                    if (best == NONE || together(i, j) > most) {
                        best = pair(i, j);
                        most = together(i, j);
                    }
                }
            }
            return best;
        }

        /** Works out, from the last turn back to the first, what is set wherever the other one stands. */
        void foresee(int h) {
            for (int level = 0; level < levels; level++) {
                moverSums[h][level] = 0;
                waiterSums[h][level] = 0;
            }
            for (int k = h - 1; k >= 0; k--) {
                for (int stands = 0; stands < levels; stands++) {
                    foreseeTurn(k, stands);
                }
            }
        }

        private void foreseeTurn(int k, int stands) {
            int best = 0;
            int most = moverSum(k, 0, stands);
            for (int level = 1; level < levels; level++) {
                int sum = moverSum(k, level, stands);
                if (sum > most) {
                    best = level;
                    most = sum;
                }
            }
            choices[k][stands] = best;
            moverSums[k][stands] = most;
            int waiterGain = k % 2 == 0 ? gainB[best][stands] : gainA[stands][best];
            waiterSums[k][stands] = waiterGain + moverSums[k + 1][best];
        }

        private int moverSum(int k, int level, int stands) {
            int gain = k % 2 == 0 ? gainA[level][stands] : gainB[stands][level];
            return gain + waiterSums[k + 1][level];
        }

        int setInTurn(int j, int k) {
            int stands = j;
            for (int turn = 0; turn <= k; turn++) {
                stands = choices[turn][stands];
            }
            return stands;
        }
    }

    /** Two learners; a table's first index is the other's level, its second the own one. */
    private static final class Learners {
        static final int LAST_NIGHTS = 10;

        final int[][] tableA = new int[MOST_LEVELS][MOST_LEVELS];
        final int[][] tableB = new int[MOST_LEVELS][MOST_LEVELS];
        int levels;
        int levelA;
        int levelB;
        int x;

        Learners() {
        }

        /** Lets both learn for n nights and then go on by what they learned. */
        void letGo(Game game, int n, int seed) {
            clear(game.levels);
            x = seed;
            for (int night = 0; night < n; night++) {
                int trying = 50 - 50 * night / n;
                int a = take(tableA, levelB, trying);
                int b = take(tableB, levelA, trying);
                mend(tableA[levelB], a, game.gainA[a][b], tableA[b]);
                mend(tableB[levelA], b, game.gainB[a][b], tableB[a]);
                levelA = a;
                levelB = b;
            }
            for (int night = 0; night < LAST_NIGHTS; night++) {
                int a = bestOf(tableA[levelB]);
                levelB = bestOf(tableB[levelA]);
                levelA = a;
            }
        }

        int answerOfB(int standsA) {
            return bestOf(tableB[standsA]);
        }

        private void clear(int many) {
            levels = many;
            levelA = Math.max(0, many - 1);
            levelB = levelA;
            for (int other = 0; other < many; other++) {
                for (int own = 0; own < many; own++) {
                    tableA[other][own] = 0;
                    tableB[other][own] = 0;
                }
            }
        }

        private int draw() {
            x = 1103515245 * x + 12345;
            return x >>> 16;
        }

        private int take(int[][] table, int other, int trying) {
            if (draw() % 100 < trying && levels > 0) {
                return draw() % levels;
            }
            return bestOf(table[other]);
        }

        private int bestOf(int[] row) {
            int best = 0;
            for (int level = 1; level < levels; level++) {
                if (row[level] > row[best]) {
                    best = level;
                }
            }
            return best;
        }

        private void mend(int[] row, int own, int gain, int[] nextRow) {
            int v = row[own];
            int m = nextRow[bestOf(nextRow)];
            row[own] = v + (8 * gain + 7 * m / 8 - v) / 8;
        }
    }

    /** Weights of two stories, and the lags of all rises. */
    private static final class Stories {
        final int[][] weights = new int[STORIES][LAGS];
        final int[] lags = new int[MOST_RISES * LAGS_A_RISE];
        int lagsMany;
        int rises;

        Stories() {
            for (int story = 0; story < STORIES; story++) {
                for (int lag = 0; lag < LAGS; lag++) {
                    weights[story][lag] = 1;
                }
            }
        }

        void copyFrom(Stories from) {
            rises = from.rises;
            lagsMany = from.lagsMany;
            System.arraycopy(from.lags, 0, lags, 0, lags.length);
            for (int story = 0; story < STORIES; story++) {
                System.arraycopy(from.weights[story], 0, weights[story], 0, LAGS);
            }
        }

        void setWeights(int story, long[] numbers) {
            for (int lag = 0; lag < LAGS; lag++) {
                weights[story][lag] = (int) numbers[lag];
            }
        }

        int addRise(int a, int b, int c) {
            if (rises >= MOST_RISES) {
                return NONE;
            }
            addLag(a);
            addLag(b);
            addLag(c);
            return rises++;
        }

        private void addLag(int lag) {
            if (lag != NONE && lagsMany < lags.length) {
                lags[lagsMany] = lag;
                lagsMany++;
            }
        }

        long product(int story) {
            long product = 1;
            for (int k = 0; k < lagsMany; k++) {
                product *= weights[story][lags[k]];
            }
            return product;
        }
    }

    /** Rows of numbers, and the filling of a tank by one of them as prices. */
    private static final class Trays {
        final int[] sorts = new int[TRAYS];
        final int[] lengths = new int[TRAYS];
        final long[][] numbers = new long[TRAYS][TRAY_PLACES];
        // By day and by what is in the tank ahead of filling: what is paid from there on, and what is filled.
        final int[][] least = new int[TRAY_PLACES + 1][MOST_TANK + 1];
        final int[][] filled = new int[TRAY_PLACES][MOST_TANK + 1];

        Trays() {
            for (int tray = 0; tray < TRAYS; tray++) {
                sorts[tray] = NONE;
            }
        }

        boolean isMissing(int tray) {
            return sorts[tray] == NONE;
        }

        void clear(int tray, int sort, int many) {
            sorts[tray] = sort;
            lengths[tray] = many;
            for (int place = 0; place < many; place++) {
                numbers[tray][place] = 0;
            }
        }

        long put(int tray, int place, long v) {
            numbers[tray][place] = cut(sorts[tray], v);
            return numbers[tray][place];
        }

        private static long cut(int sort, long v) {
            switch (sort) {
                case 0: return (byte) v;
                case 1: return (short) v;
                case 2: return (int) v;
                default: return v;
            }
        }

        boolean allWithin(int tray, int most) {
            for (int place = 0; place < lengths[tray]; place++) {
                if (numbers[tray][place] < 0 || numbers[tray][place] > most) {
                    return false;
                }
            }
            return true;
        }

        /** Works out the cheapest filling by a tray's prices, from the last day back to the first. */
        void planFilling(int tray, int size) {
            int days = lengths[tray];
            for (int inside = 0; inside <= size; inside++) {
                least[days][inside] = 0;
            }
            for (int day = days - 1; day >= 0; day--) {
                for (int inside = 0; inside <= size; inside++) {
                    planDay(day, inside, size, (int) numbers[tray][day]);
                }
            }
        }

        private void planDay(int day, int inside, int size, int price) {
            // One is used behind filling, so an empty tank needs one at least.
            int fewest = inside == 0 ? 1 : 0;
            int best = fewest;
            int paid = fewest * price + least[day + 1][inside + fewest - 1];
            for (int more = fewest + 1; inside + more <= size; more++) {
                int sum = more * price + least[day + 1][inside + more - 1];
                if (sum < paid) {
                    best = more;
                    paid = sum;
                }
            }
            least[day][inside] = paid;
            filled[day][inside] = best;
        }

        int leastPaid(int inside) {
            return least[0][inside];
        }

        int filledOn(int day, int inside) {
            for (int d = 0; d < day; d++) {
                inside += filled[d][inside] - 1;
            }
            return filled[day][inside];
        }
    }
}
