import java.util.Arrays;
import java.util.NoSuchElementException;

/** Tolls of lorries with boxes on the roads of nine lands, each answer as it was known at a minute. */
public final class TollTags {
    public static final int NONE = -1;

    private static final int LAST_MINUTE = 129599;
    private static final int HOUR = 60;
    private static final int DAY = 24 * HOUR;
    private static final int MONTH = 30 * DAY;
    private static final int MONTHS = 3;

    private static final int LANDS = 9;
    private static final int ROADS = 40;
    private static final int NODES = 24;
    private static final int PROVIDERS = 6;
    private static final int LORRIES = 16;
    private static final int BOXES = 24;
    private static final int SIGNALS = 300;
    private static final int DISPUTES = 40;
    private static final int TAPE = 400;
    private static final int FED = 20;
    private static final int NOTES = 60;
    private static final int WAYS = 20;
    private static final int CAMERAS = 12;

    /** No TRACK is longer: a least way comes to no NODE twice, so fewer than NODES ROADS follow a SIGNAL. */
    private static final int PASSAGES = SIGNALS * NODES;

    private static final int REFUSED = 0;
    private static final int OTHER_ROAD = 2;
    private static final int USUAL_RATE = 1000;

    /** What terms() and attempt() answer ahead of reading. */
    private static final int UNREAD = 9;

    // TOKENS: a sign is its own byte, a word its place in WORDS behind WORD.
    private static final int END = 256;
    private static final int STRANGE = 257;
    private static final int NUMBER = 258;
    private static final int LONG_NUMBER = 259;
    private static final int OTHER_WORD = 299;
    private static final int WORD = 300;
    private static final String WORDS =
        "toll free late double and or not axles fumes km hour weekday sort gone guessed ";
    private static final int TOLL = 300;
    private static final int FREE = 301;
    private static final int LATE = 302;
    private static final int DOUBLE = 303;
    private static final int AND = 304;
    private static final int OR = 305;
    private static final int NOT = 306;
    private static final int VALUE = 307;
    private static final int VALUES = 8;

    private final Net net;
    private final Fleet fleet;
    private final Book book;
    private final Disputes disputes;
    private final Signals signals;
    private final Reader reader;
    private final Notes blackNotes;
    private final Notes rateNotes;
    private final Walk walk;
    private final Ledger ledger;
    private final Watch watch;
    private int now;
    private int faultPlace;
    private int surplus;

    public TollTags() {
        net = new Net();
        fleet = new Fleet();
        book = new Book();
        disputes = new Disputes();
        signals = new Signals(net, fleet, book, disputes);
        reader = new Reader();
        blackNotes = new Notes();
        rateNotes = new Notes();
        walk = new Walk(net, fleet, signals, book, blackNotes);
        ledger = new Ledger(fleet, walk, rateNotes);
        watch = new Watch();
        faultPlace = NONE;
    }

    public int land() {
        return net.addLand();
    }

    public int road(int from, int to, int land, int km, int sort, boolean gantry) throws NoSuchElementException {
        needLand(land);
        return net.addRoad(from, to, land, km, sort, gantry);
    }

    public int provider(int deposit) {
        return fleet.addProvider(deposit);
    }

    public int lorry(int axles, int fumes) {
        return fleet.addLorry(axles, fumes);
    }

    public int box(int lorry, int provider) throws NoSuchElementException {
        need(lorry, fleet.lorries);
        need(provider, fleet.providers);
        return fleet.addBox(lorry, provider);
    }

    public int go(int n) throws IllegalArgumentException {
        if (n < 0 || n > LAST_MINUTE - now) {
            throw new IllegalArgumentException();
        }
        now += n;
        return now;
    }

    public int signal(int box, int road, int t) throws NoSuchElementException {
        need(box, fleet.boxes);
        need(road, net.roads);
        if (!net.hasGantry(road) || !isWithin(t, 0, now)) {
            return NONE;
        }
        return signals.add(box, road, t, now);
    }

    public boolean back(int signal) throws NoSuchElementException {
        need(signal, signals.many);
        return signals.takeBack(signal, now);
    }

    public int dispute(int signal) throws NoSuchElementException {
        need(signal, signals.many);
        return disputes.add(signal);
    }

    public boolean decide(int dispute, int how, int road) throws NoSuchElementException {
        need(dispute, disputes.many);
        if (how == OTHER_ROAD) {
            need(road, net.roads);
        }
        if (!isWithin(how, 0, OTHER_ROAD) || how == OTHER_ROAD && !net.hasGantry(road)) {
            return false;
        }
        return disputes.settle(dispute, how, road, now);
    }

    public int feed(int a, int b, int c, int d, int e) {
        if (reader.length + FED > TAPE) {
            return NONE;
        }
        reader.append(a);
        reader.append(b);
        reader.append(c);
        reader.append(d);
        reader.append(e);
        return reader.length;
    }

    public int terms(int land, int n, int from) throws NoSuchElementException, IllegalArgumentException {
        needLand(land);
        needTape(n);
        int answer = readTape(n, isMinute(from) && book.hasRoom(land));
        if (answer == 0) {
            book.tell(land, reader.tariff(from, now));
        }
        return answer;
    }

    public int fault() {
        return faultPlace;
    }

    public int black(int box, boolean on, int m) throws NoSuchElementException {
        need(box, fleet.boxes);
        return blackNotes.tell(box, m, on ? 1 : 0, now) ? blackNotes.many : NONE;
    }

    public boolean rate(int land, int month, int parts) throws NoSuchElementException {
        needLand(land);
        if (!isWithin(month, 0, MONTHS - 1) || !isWithin(parts, 1, 99999)) {
            return false;
        }
        return rateNotes.tell(land * MONTHS + month, 0, parts, now);
    }

    public int track(int box, int what, int k) throws NoSuchElementException, IllegalArgumentException {
        need(box, fleet.boxes);
        need(what, 6);
        needKnown(k);
        signals.know(k);
        walk.start(box, k);
        int sum = 0;
        for (int i = 0; i < PASSAGES && walk.step(); i++) {
            sum += partOfTrack(what);
        }
        return what == 1 ? walk.broken : sum;
    }

    public int passage(int box, int i, int what, int k) throws NoSuchElementException, IllegalArgumentException {
        need(box, fleet.boxes);
        need(what, 7);
        needKnown(k);
        need(i, PASSAGES);
        signals.know(k);
        walk.start(box, k);
        for (int j = 0; j <= i; j++) {
            if (!walk.step()) {
                throw new NoSuchElementException();
            }
        }
        return partOfPassage(what);
    }

    public long due(int provider, int land, int month, int k) throws NoSuchElementException, IllegalArgumentException {
        need(provider, fleet.providers);
        needLand(land);
        need(month, MONTHS);
        needKnown(k);
        addUp(provider, k);
        return ledger.dueFor(land, month, k);
    }

    public int unpaid(int land, int month, int k) throws NoSuchElementException, IllegalArgumentException {
        needLand(land);
        need(month, MONTHS);
        needKnown(k);
        addUp(NONE, k);
        return ledger.unpaidFor(land, month);
    }

    public long falls(int provider, int land, int k) throws NoSuchElementException, IllegalArgumentException {
        need(provider, fleet.providers);
        needLand(land);
        needKnown(k);
        addUp(provider, k);
        return ledger.shareOf(land, fleet.depositOf(provider), k);
    }

    public int way(int many, long roads, int lorries) throws NoSuchElementException {
        if (!watch.takes(many, lorries)) {
            return NONE;
        }
        for (int i = 0; i < many; i++) {
            need(Watch.roadAt(roads, i), net.roads);
        }
        return watch.add(many, roads, lorries);
    }

    public int cameras(int m) throws IllegalArgumentException {
        if (!isWithin(m, 0, CAMERAS)) {
            throw new IllegalArgumentException();
        }
        return watch.bestOf(m);
    }

    public int sees(int set) {
        return watch.seenBy(set);
    }

    public int attempt(int land, int n, int from) throws NoSuchElementException, IllegalArgumentException {
        needLand(land);
        needTape(n);
        int answer = readTape(n, isMinute(from));
        if (answer == 0) {
            int before = chargesNow(land);
            book.tell(land, reader.tariff(from, now));
            surplus = chargesNow(land) - before;
            book.takeBackLast(land);
        }
        return answer;
    }

    public int more() {
        return surplus;
    }

    public int count(int what) throws NoSuchElementException {
        switch (what) {
            case 0: return now;
            case 1: return net.lands;
            case 2: return net.roads;
            case 3: return fleet.providers;
            case 4: return fleet.lorries;
            case 5: return fleet.boxes;
            case 6: return signals.many;
            case 7: return disputes.many;
            case 8: return watch.many;
            case 9: return reader.length;
            default: throw new NoSuchElementException();
        }
    }

    private void need(int number, int many) {
        if (number < 0 || number >= many) {
            throw new NoSuchElementException();
        }
    }

    private void needLand(int land) {
        need(land, net.lands);
    }

    private void needKnown(int k) {
        if (!isWithin(k, 0, now)) {
            throw new IllegalArgumentException();
        }
    }

    private void needTape(int n) {
        if (!isWithin(n, 0, reader.length)) {
            throw new IllegalArgumentException();
        }
    }

    /** Reads the first n bytes, if the text fits where it shall stand; the tape is empty then in any case. */
    private int readTape(int n, boolean fits) {
        int answer = fits ? reader.read(n) : UNREAD;
        faultPlace = answer == 0 || answer == UNREAD ? NONE : reader.place;
        reader.length = 0;
        return answer;
    }

    private int partOfTrack(int what) {
        switch (what) {
            case 0: return 1;
            case 2: return walk.charge();
            case 3: return net.kmOf(walk.road);
            case 4: return walk.doubled ? 1 : 0;
            case 5: return walk.signal == NONE ? 1 : 0;
            default: return 0;
        }
    }

    private int partOfPassage(int what) {
        switch (what) {
            case 0: return walk.road;
            case 1: return walk.minute;
            case 2: return walk.charge();
            case 3: return walk.signal;
            case 4: return walk.doubled ? 1 : 0;
            case 5: return walk.goneAhead;
            default: return walk.isUnpaid() ? 1 : 0;
        }
    }

    private void addUp(int provider, int k) {
        signals.know(k);
        ledger.addUp(provider, k);
    }

    private int chargesNow(int land) {
        signals.know(now);
        ledger.addUp(NONE, now);
        return ledger.chargesIn(land);
    }

    private static boolean isWithin(int number, int low, int high) {
        return number >= low && number <= high;
    }

    private static boolean isMinute(int t) {
        return isWithin(t, 0, LAST_MINUTE);
    }

    private static int at(int[] row, int i) {
        return i >= 0 && i < row.length ? row[i] : 0;
    }

    private static void put(int[] row, int i, int number) {
        if (i >= 0 && i < row.length) {
            row[i] = number;
        }
    }

    private static long at(long[] row, int i) {
        return i >= 0 && i < row.length ? row[i] : 0L;
    }

    private static void put(long[] row, int i, long number) {
        if (i >= 0 && i < row.length) {
            row[i] = number;
        }
    }

    /** The LANDS, their ROADS, and the least ways by ROADS without a GANTRY. */
    private static final class Net {
        /** A way costs its km times this and one a ROAD: so fewer ROADS tell only between ways of like km. */
        private static final int KM = 64;
        /** Twice this and a ROAD's cost are still an int. */
        private static final int FAR = 1000000000;

        private int lands;
        private int roads;
        private final int[] from = new int[ROADS];
        private final int[] to = new int[ROADS];
        private final int[] land = new int[ROADS];
        private final int[] km = new int[ROADS];
        private final int[] sort = new int[ROADS];
        /** What a ROAD costs on a way; FAR: it has a GANTRY. */
        private final int[] weight = new int[ROADS];
        /** What the least way costs from each NODE to each other. */
        private final int[] cost = new int[NODES * NODES];

        Net() {
            Arrays.fill(cost, FAR);
            for (int node = 0; node < NODES; node++) {
                put(cost, node * NODES + node, 0);
            }
        }

        int addLand() {
            return lands < LANDS ? lands++ : NONE;
        }

        int addRoad(int begin, int end, int itsLand, int length, int kind, boolean gantry) {
            boolean nodes = isWithin(begin, 0, NODES - 1) && isWithin(end, 0, NODES - 1) && begin != end;
            if (!nodes || !isWithin(length, 1, 999) || !isWithin(kind, 0, 3) || roads >= ROADS) {
                return NONE;
            }
            put(from, roads, begin);
            put(to, roads, end);
            put(land, roads, itsLand);
            put(km, roads, length);
            put(sort, roads, kind);
            put(weight, roads, gantry ? FAR : length * KM + 1);
            if (!gantry) {
                shorten(begin, end, length * KM + 1);
            }
            return roads++;
        }

        /** No least way has a NODE twice, so what is read here is never what is changed here. */
        private void shorten(int begin, int end, int costs) {
            for (int node = 0; node < NODES; node++) {
                int ahead = at(cost, node * NODES + begin) + costs;
                for (int goal = 0; goal < NODES; goal++) {
                    int way = ahead + at(cost, end * NODES + goal);
                    put(cost, node * NODES + goal, Math.min(way, at(cost, node * NODES + goal)));
                }
            }
        }

        boolean hasGantry(int road) {
            return at(weight, road) == FAR;
        }

        int beginOf(int road) {
            return at(from, road);
        }

        int endOf(int road) {
            return at(to, road);
        }

        int landOf(int road) {
            return at(land, road);
        }

        int kmOf(int road) {
            return at(km, road);
        }

        int sortOf(int road) {
            return at(sort, road);
        }

        /**
         * The first ROAD of the least way from a NODE to another one; NONE: there is no way. It is the least that
         * begins such a way: taken so at each NODE, the whole row of ROADS is the first.
         */
        int firstRoad(int node, int goal) {
            int least = at(cost, node * NODES + goal);
            for (int road = 0; road < roads && least < FAR; road++) {
                if (at(from, road) == node && at(weight, road) + at(cost, at(to, road) * NODES + goal) == least) {
                    return road;
                }
            }
            return NONE;
        }
    }

    /** The PROVIDERS, the LORRIES and their BOXES. */
    private static final class Fleet {
        private int providers;
        private int lorries;
        private int boxes;
        private final int[] deposit = new int[PROVIDERS];
        private final int[] axles = new int[LORRIES];
        private final int[] fumes = new int[LORRIES];
        private final int[] boxLorry = new int[BOXES];
        private final int[] boxProvider = new int[BOXES];

        int addProvider(int itsDeposit) {
            if (providers >= PROVIDERS || !isWithin(itsDeposit, 0, 1000000)) {
                return NONE;
            }
            put(deposit, providers, itsDeposit);
            return providers++;
        }

        int addLorry(int itsAxles, int itsFumes) {
            if (lorries >= LORRIES || !isWithin(itsAxles, 2, 9) || !isWithin(itsFumes, 0, 6)) {
                return NONE;
            }
            put(axles, lorries, itsAxles);
            put(fumes, lorries, itsFumes);
            return lorries++;
        }

        int addBox(int lorry, int provider) {
            if (boxes >= BOXES) {
                return NONE;
            }
            put(boxLorry, boxes, lorry);
            put(boxProvider, boxes, provider);
            return boxes++;
        }

        int depositOf(int provider) {
            return at(deposit, provider);
        }

        int lorryOf(int box) {
            return at(boxLorry, box);
        }

        int providerOf(int box) {
            return at(boxProvider, box);
        }

        int axlesOf(int box) {
            return at(axles, at(boxLorry, box));
        }

        int fumesOf(int box) {
            return at(fumes, at(boxLorry, box));
        }
    }

    /** The DISPUTES, and what was DECIDED. */
    private static final class Disputes {
        private int many;
        private int decisions;
        private final int[] of = new int[DISPUTES];
        private final int[] decidedAt = new int[DISPUTES];
        private final int[] how = new int[DISPUTES];
        private final int[] road = new int[DISPUTES];
        /** The DISPUTES as they were DECIDED, one after another: MINUTES alone don't tell which was last. */
        private final int[] decided = new int[DISPUTES];

        int add(int signal) {
            if (many >= DISPUTES) {
                return NONE;
            }
            put(of, many, signal);
            put(decidedAt, many, NONE);
            return many++;
        }

        boolean settle(int dispute, int itsHow, int itsRoad, int now) {
            if (at(decidedAt, dispute) != NONE) {
                return false;
            }
            put(decidedAt, dispute, now);
            put(how, dispute, itsHow);
            put(road, dispute, itsRoad);
            put(decided, decisions, dispute);
            decisions++;
            return true;
        }

        /** Puts into a row of the SIGNALS' ROADS what was DECIDED as known at k, NONE for those that don't count. */
        void overrule(int[] where, int k) {
            for (int i = 0; i < decisions; i++) {
                int dispute = at(decided, i);
                if (at(decidedAt, dispute) <= k && at(how, dispute) != REFUSED) {
                    put(where, at(of, dispute), at(how, dispute) == OTHER_ROAD ? at(road, dispute) : NONE);
                }
            }
        }
    }

    /** The SIGNALS, and where each of them COUNTS as known at a MINUTE. */
    private static final class Signals {
        private final Net net;
        private final Fleet fleet;
        private final Book book;
        private final Disputes disputes;
        private int many;
        private final int[] box = new int[SIGNALS];
        private final int[] road = new int[SIGNALS];
        private final int[] minute = new int[SIGNALS];
        private final int[] told = new int[SIGNALS];
        private final int[] backAt = new int[SIGNALS];
        /** All SIGNALS by their MINUTES, of like ones by number. */
        private final int[] order = new int[SIGNALS];
        /** The ROAD on which a SIGNAL COUNTS, NONE: it doesn't; and whether it is DOUBLE. */
        private final int[] where = new int[SIGNALS];
        private final int[] doubled = new int[SIGNALS];

        Signals(Net itsNet, Fleet itsFleet, Book itsBook, Disputes itsDisputes) {
            net = itsNet;
            fleet = itsFleet;
            book = itsBook;
            disputes = itsDisputes;
        }

        int add(int itsBox, int itsRoad, int t, int now) {
            if (many >= SIGNALS) {
                return NONE;
            }
            put(box, many, itsBox);
            put(road, many, itsRoad);
            put(minute, many, t);
            put(told, many, now);
            put(backAt, many, NONE);
            int place = many;
            for (; place > 0 && minuteOf(inOrder(place - 1)) > t; place--) {
                put(order, place, inOrder(place - 1));
            }
            put(order, place, many);
            return many++;
        }

        boolean takeBack(int signal, int now) {
            if (at(backAt, signal) != NONE) {
                return false;
            }
            put(backAt, signal, now);
            return true;
        }

        int minuteOf(int signal) {
            return at(minute, signal);
        }

        int whereOf(int signal) {
            return at(where, signal);
        }

        boolean isDouble(int signal) {
            return at(doubled, signal) != 0;
        }

        int inOrder(int place) {
            return at(order, place);
        }

        /** The first place in the order, from a place on, with a SIGNAL of a BOX that COUNTS; NONE: there is none. */
        int nextOf(int itsBox, int place) {
            for (int i = place; i < many; i++) {
                int signal = at(order, i);
                if (at(box, signal) == itsBox && at(where, signal) != NONE) {
                    return i;
                }
            }
            return NONE;
        }

        /** Finds where each SIGNAL COUNTS as known at k, and which of them are DOUBLE. */
        void know(int k) {
            System.arraycopy(road, 0, where, 0, SIGNALS);
            disputes.overrule(where, k);
            for (int signal = 0; signal < many; signal++) {
                if (!isKnown(signal, k) || isLate(signal, k)) {
                    put(where, signal, NONE);
                }
            }
            for (int place = 0; place < many; place++) {
                put(doubled, inOrder(place), hasTwin(place, k) ? 1 : 0);
            }
        }

        private boolean isKnown(int signal, int k) {
            int back = at(backAt, signal);
            return at(told, signal) <= k && (back == NONE || back > k);
        }

        private boolean isLate(int signal, int k) {
            int itsRoad = whereOf(signal);
            int t = minuteOf(signal);
            return itsRoad != NONE && at(told, signal) - t > book.find(net.landOf(itsRoad), t, k).late;
        }

        /** Whether one ahead in the order, which is by MINUTE and number, makes the SIGNAL at a place DOUBLE. */
        private boolean hasTwin(int place, int k) {
            int signal = inOrder(place);
            if (whereOf(signal) == NONE) {
                return false;
            }
            int t = minuteOf(signal);
            int near = book.find(net.landOf(whereOf(signal)), t, k).near;
            for (int i = place - 1; i >= 0 && t - minuteOf(inOrder(i)) <= near; i--) {
                if (isTwin(inOrder(i), signal)) {
                    return true;
                }
            }
            return false;
        }

        private boolean isTwin(int other, int signal) {
            int itsBox = at(box, signal);
            int otherBox = at(box, other);
            return whereOf(other) == whereOf(signal) && otherBox != itsBox
                && fleet.lorryOf(otherBox) == fleet.lorryOf(itsBox);
        }
    }

    /** TERMS, read: what they tell, and their 'toll' and 'free' as steps over a pile of numbers. */
    private static final class Tariff {
        private final int from;
        private final int told;
        private final int late;
        /** Within how many MINUTES a SIGNAL may make another one DOUBLE. */
        private final int near;
        /** A NUMBER is itself, another TOKEN stands below 0; 'toll' and 'free' come behind what they take. */
        private final int[] steps;

        Tariff(int itsFrom, int itsTold, int itsLate, int itsNear, int[] itsSteps) {
            from = itsFrom;
            told = itsTold;
            late = itsLate;
            near = itsNear;
            steps = itsSteps;
        }

        int charge(int[] values, int[] pile, int without) {
            int high = 0;
            int toll = without;
            for (int i = 0; i < steps.length; i++) {
                int token = -steps[i];
                if (token <= 0 || token >= VALUE) {
                    put(pile, high, token <= 0 ? -token : at(values, token - VALUE));
                    high++;
                } else if (token == NOT) {
                    put(pile, high - 1, at(pile, high - 1) == 0 ? 1 : 0);
                } else if (token == TOLL) {
                    high--;
                    toll = Math.max(0, Math.min(99999, at(pile, high)));
                } else if (token == FREE) {
                    high--;
                    if (at(pile, high) != 0) {
                        return 0;
                    }
                } else {
                    high--;
                    put(pile, high - 1, join(token, at(pile, high - 1), at(pile, high)));
                }
            }
            return toll;
        }

        private static int join(int token, int a, int b) {
            switch (token) {
                case '+': return a + b;
                case '-': return a - b;
                case '*': return a * b;
                case '/': return b == 0 ? 0 : a / b;
                case '<': return a < b ? 1 : 0;
                case '=': return a == b ? 1 : 0;
                case AND: return a != 0 && b != 0 ? 1 : 0;
                default: return a != 0 || b != 0 ? 1 : 0;
            }
        }
    }

    /** The TERMS of all LANDS, of each in the order they were told. */
    private static final class Book {
        private static final int TERMS = 4;
        /** One more than can be told, for those that are only tried. */
        private static final int PLACES = TERMS + 1;
        private static final int USUAL_LATE = 10080;
        private static final int USUAL_DOUBLE = 30;

        private final Tariff usual = new Tariff(NONE, NONE, USUAL_LATE, USUAL_DOUBLE, new int[0]);
        private final Tariff[] tariffs = new Tariff[LANDS * PLACES];
        private final int[] many = new int[LANDS];

        boolean hasRoom(int land) {
            return at(many, land) < TERMS;
        }

        void tell(int land, Tariff tariff) {
            set(land * PLACES + at(many, land), tariff);
            put(many, land, at(many, land) + 1);
        }

        void takeBackLast(int land) {
            put(many, land, at(many, land) - 1);
            set(land * PLACES + at(many, land), null);
        }

        private void set(int place, Tariff tariff) {
            if (place >= 0 && place < tariffs.length) {
                tariffs[place] = tariff;
            }
        }

        private Tariff get(int place) {
            return place >= 0 && place < tariffs.length ? tariffs[place] : null;
        }

        /** The TERMS of a LAND that count for a MINUTE t as known at k, never null. */
        Tariff find(int land, int t, int k) {
            Tariff best = usual;
            int end = at(many, land);
            for (int i = 0; i < end; i++) {
                Tariff one = get(land * PLACES + i);
                if (one != null && one.told <= k && one.from <= t && one.from >= best.from) {
                    best = one;
                }
            }
            return best;
        }
    }

    /** The tape, and the reading of its first bytes as TERMS. */
    private static final class Reader {
        private static final int CLAUSES = 16;
        private static final int DEPTH = 6;
        private static final int SIDE_BY_SIDE = 6;
        private static final int DIGITS = 5;

        // The FAULTS.
        private static final int MISPLACED = 1;
        private static final int TOO_MUCH = 2;
        private static final int NO_VALUE = 3;

        // What the next TOKEN shall be: a CLAUSE's word, a NUMBER behind 'late' or 'double', the ';' behind
        // that, a PART (or a 'not'), or what stands behind a PART.
        private static final int HEAD = 0;
        private static final int TERM = 1;
        private static final int STOP = 2;
        private static final int PART = 3;
        private static final int JOINT = 4;

        /** How tight a comparison binds. */
        private static final int COMPARING = 4;

        private final int[] tape = new int[TAPE];
        private int length;
        /** How many bytes the text has. */
        private int end;
        /** Where the TOKEN begins, which is where a FAULT is, and where the bytes behind it do. */
        private int place;
        private int behind;
        private int token;
        private int number;
        private int want;

        private int clauses;
        private int head;
        private int late;
        private int near;
        private final int[] steps = new int[TAPE];
        private int written;

        /** The operators and parentheses of an EXPR that wait until what they join is written. */
        private final int[] waiting = new int[TAPE];
        private int waits;
        private int depth;
        /** Whether a NOT may begin here, and how many 'not' stand side by side just ahead. */
        private boolean mayNegate;
        private int nots;
        /** The depths, as bits, at which a NOT has its one comparison. */
        private int compared;

        void append(int four) {
            for (int shift = 24; shift >= 0; shift -= 8) {
                put(tape, length, four >>> shift & 255);
                length++;
            }
        }

        /** The TERMS that were read last. */
        Tariff tariff(int from, int told) {
            int many = Math.max(0, Math.min(written, TAPE));
            return new Tariff(from, told, late, near, Arrays.copyOf(steps, many));
        }

        /** Reads the first n bytes: 0, or the FAULT, whose place stays in place. */
        int read(int n) {
            end = n;
            behind = 0;
            clauses = 0;
            written = 0;
            late = Book.USUAL_LATE;
            near = Book.USUAL_DOUBLE;
            want = HEAD;
            int wrong = 0;
            for (int i = 0; i <= TAPE && wrong == 0; i++) {
                advance();
                if (token == END) {
                    return want == HEAD ? 0 : MISPLACED;
                }
                switch (want) {
                    case HEAD: wrong = begin(); break;
                    case TERM: wrong = term(); break;
                    case STOP: wrong = stop(); break;
                    case PART: wrong = part(); break;
                    default: wrong = joint();
                }
            }
            return wrong;
        }

        private int begin() {
            if (!isWithin(token, TOLL, DOUBLE)) {
                return MISPLACED;
            }
            if (clauses >= CLAUSES) {
                return TOO_MUCH;
            }
            clauses++;
            head = token;
            want = TERM;
            if (head == TOLL || head == FREE) {
                waits = 0;
                depth = 0;
                wantNot();
            }
            return 0;
        }

        private int term() {
            if (token != NUMBER) {
                return token == LONG_NUMBER ? TOO_MUCH : MISPLACED;
            }
            if (head == LATE) {
                late = number;
            } else {
                near = number;
            }
            want = STOP;
            return 0;
        }

        private int stop() {
            want = HEAD;
            return token == ';' ? 0 : MISPLACED;
        }

        private void wantNot() {
            want = PART;
            mayNegate = true;
            nots = 0;
            compared &= ~(1 << depth);
        }

        private int part() {
            boolean word = token >= OTHER_WORD;
            boolean digits = token == NUMBER || token == LONG_NUMBER;
            if (!word && !digits && token != '(') {
                return MISPLACED;
            }
            if (depth >= DEPTH || token == LONG_NUMBER) {
                return TOO_MUCH;
            }
            if (token == '(') {
                hold();
                depth++;
                wantNot();
                return 0;
            }
            if (token == NOT && mayNegate) {
                hold();
                nots++;
                return nots > SIDE_BY_SIDE ? TOO_MUCH : 0;
            }
            if (word && token < VALUE) {
                return NO_VALUE;
            }
            write(digits ? number : -token);
            want = JOINT;
            return 0;
        }

        private int joint() {
            if (token == ';' && depth == 0) {
                unwind(1);
                write(-head);
                want = HEAD;
                return 0;
            }
            if (token == ')' && depth > 0) {
                unwind(1);
                waits--;
                depth--;
                return 0;
            }
            int rank = rankOf(token);
            boolean again = rank == COMPARING && (compared >> depth & 1) != 0;
            if (rank == 0 || token == NOT || again) {
                return MISPLACED;
            }
            unwind(rank);
            hold();
            join(rank);
            return 0;
        }

        /** What may stand behind an operator. */
        private void join(int rank) {
            if (rank < COMPARING) {
                wantNot();
            } else {
                want = PART;
                mayNegate = false;
                compared |= rank == COMPARING ? 1 << depth : 0;
            }
        }

        /** How tight a TOKEN binds; 0: it is no operator. */
        private static int rankOf(int token) {
            switch (token) {
                case OR: return 1;
                case AND: return 2;
                case NOT: return 3;
                case '<': case '=': return COMPARING;
                case '+': case '-': return 5;
                case '*': case '/': return 6;
                default: return 0;
            }
        }

        private void hold() {
            put(waiting, waits, token);
            waits++;
        }

        /** Writes down the operators that wait and bind at least as tight; an open parenthesis stops it. */
        private void unwind(int rank) {
            for (; waits > 0 && rankOf(at(waiting, waits - 1)) >= rank; waits--) {
                write(-at(waiting, waits - 1));
            }
        }

        private void write(int step) {
            put(steps, written, step);
            written++;
        }

        private void advance() {
            for (; behind < end && isBlank(at(tape, behind)); behind++) {
                continue;
            }
            place = behind;
            int sign = at(tape, place);
            if (place >= end) {
                token = END;
            } else if (isLetter(sign)) {
                readWord();
            } else if (isDigit(sign)) {
                readNumber();
            } else {
                behind++;
                token = isSign(sign) ? sign : STRANGE;
            }
        }

        private void readNumber() {
            number = 0;
            for (; behind < end && isDigit(at(tape, behind)); behind++) {
                number = number * 10 + at(tape, behind) - '0';
            }
            token = behind - place > DIGITS ? LONG_NUMBER : NUMBER;
        }

        private void readWord() {
            for (; behind < end && isLetter(at(tape, behind)); behind++) {
                continue;
            }
            token = OTHER_WORD;
            int begin = 0;
            int words = 0;
            for (int i = 0; i < WORDS.length(); i++) {
                if (WORDS.charAt(i) == ' ') {
                    if (isRow(begin, i)) {
                        token = WORD + words;
                    }
                    words++;
                    begin = i + 1;
                }
            }
        }

        /** Whether the word on the tape is the one in WORDS that begins here and ends there. */
        private boolean isRow(int begin, int stop) {
            if (stop - begin != behind - place) {
                return false;
            }
            for (int i = begin; i < stop && i < WORDS.length(); i++) {
                if (WORDS.charAt(i) != at(tape, place + i - begin)) {
                    return false;
                }
            }
            return true;
        }

        private static boolean isBlank(int sign) {
            return sign == 32 || sign == 10;
        }

        private static boolean isLetter(int sign) {
            return sign >= 'a' && sign <= 'z';
        }

        private static boolean isDigit(int sign) {
            return sign >= '0' && sign <= '9';
        }

        private static boolean isSign(int sign) {
            return sign == ';' || sign == '(' || sign == ')' || rankOf(sign) > 0;
        }
    }

    /** What was told of some things, each from a MINUTE on: the BLACK list, the RATES. */
    private static final class Notes {
        private int many;
        private final int[] of = new int[NOTES];
        private final int[] from = new int[NOTES];
        private final int[] value = new int[NOTES];
        private final int[] told = new int[NOTES];

        boolean tell(int thing, int itsFrom, int itsValue, int now) {
            if (many >= NOTES) {
                return false;
            }
            put(of, many, thing);
            put(from, many, itsFrom);
            put(value, many, itsValue);
            put(told, many, now);
            many++;
            return true;
        }

        /** What was told last of a thing, as known at k, of all that is from t or ahead on. */
        int latest(int thing, int t, int k, int without) {
            for (int i = many - 1; i >= 0; i--) {
                if (at(of, i) == thing && at(from, i) <= t && at(told, i) <= k) {
                    return at(value, i);
                }
            }
            return without;
        }
    }

    /** Goes along the TRACK of a BOX, one PASSAGE after another; the SIGNALS must be known for k ahead of it. */
    private static final class Walk {
        private static final int APART = 180;

        private final Net net;
        private final Fleet fleet;
        private final Signals signals;
        private final Book book;
        private final Notes black;
        private final int[] gone = new int[LANDS * MONTHS];
        private final int[] values = new int[VALUES];
        private final int[] pile = new int[TAPE];
        private int box;
        private int known;
        /** The next SIGNAL's place in the order. */
        private int coming;
        /** Where the GUESSED ROADS have come to, and where they lead; alike when none are to come. */
        private int node;
        private int goal;

        private int road;
        private int minute;
        private int signal;
        private int goneAhead;
        private boolean doubled;
        private int broken;

        Walk(Net itsNet, Fleet itsFleet, Signals itsSignals, Book itsBook, Notes itsBlack) {
            net = itsNet;
            fleet = itsFleet;
            signals = itsSignals;
            book = itsBook;
            black = itsBlack;
        }

        void start(int itsBox, int k) {
            box = itsBox;
            known = k;
            node = goal;
            broken = 0;
            Arrays.fill(gone, 0);
            coming = signals.nextOf(box, 0);
        }

        /** Goes on to the next PASSAGE; false: there is none. */
        boolean step() {
            if (node != goal) {
                guess();
            } else if (coming != NONE) {
                meet();
                aim();
            } else {
                return false;
            }
            int cell = cellOf();
            goneAhead = at(gone, cell);
            if (!doubled) {
                put(gone, cell, goneAhead + net.kmOf(road));
            }
            return true;
        }

        /** The number of the PASSAGE's LAND and MONTH. */
        int cellOf() {
            return net.landOf(road) * MONTHS + minute / MONTH;
        }

        private void guess() {
            road = net.firstRoad(node, goal);
            node = net.endOf(road);
            signal = NONE;
            doubled = false;
        }

        private void meet() {
            signal = signals.inOrder(coming);
            road = signals.whereOf(signal);
            minute = signals.minuteOf(signal);
            doubled = signals.isDouble(signal);
            coming = signals.nextOf(box, coming + 1);
        }

        /** Looks for GUESSED ROADS from the SIGNAL just met to the next one. */
        private void aim() {
            if (coming == NONE) {
                return;
            }
            int next = signals.inOrder(coming);
            if (signals.minuteOf(next) - minute > APART) {
                return;
            }
            int start = net.endOf(road);
            int end = net.beginOf(signals.whereOf(next));
            if (start != end && net.firstRoad(start, end) == NONE) {
                broken++;
            } else {
                node = start;
                goal = end;
            }
        }

        int charge() {
            if (doubled) {
                return 0;
            }
            put(values, 0, fleet.axlesOf(box));
            put(values, 1, fleet.fumesOf(box));
            put(values, 2, net.kmOf(road));
            put(values, 3, minute % DAY / HOUR);
            put(values, 4, minute / DAY % 7);
            put(values, 5, net.sortOf(road));
            put(values, 6, goneAhead);
            put(values, 7, signal == NONE ? 1 : 0);
            Tariff tariff = book.find(net.landOf(road), minute, known);
            return tariff.charge(values, pile, 10 * net.kmOf(road));
        }

        boolean isUnpaid() {
            return black.latest(box, minute, known, 0) != 0;
        }
    }

    /** Sums of CHARGES by LAND and MONTH, and what a PROVIDER pays of them. */
    private static final class Ledger {
        private final Fleet fleet;
        private final Walk walk;
        private final Notes rates;
        private final long[] owed = new long[LANDS * MONTHS];
        private final long[] notPaid = new long[LANDS * MONTHS];
        private final long[] debts = new long[LANDS];

        Ledger(Fleet itsFleet, Walk itsWalk, Notes itsRates) {
            fleet = itsFleet;
            walk = itsWalk;
            rates = itsRates;
        }

        /** Adds up the CHARGES of a PROVIDER's BOXES, of all with NONE; the SIGNALS must be known for k ahead of it. */
        void addUp(int provider, int k) {
            Arrays.fill(owed, 0L);
            Arrays.fill(notPaid, 0L);
            for (int box = 0; box < fleet.boxes; box++) {
                walk.start(box, k);
                boolean asked = provider == NONE || fleet.providerOf(box) == provider;
                for (int i = 0; i < PASSAGES && asked && walk.step(); i++) {
                    add(walk.isUnpaid() ? notPaid : owed, walk.cellOf(), walk.charge());
                }
            }
        }

        private static void add(long[] sums, int cell, int charge) {
            put(sums, cell, at(sums, cell) + charge);
        }

        long dueFor(int land, int month, int k) {
            int cell = land * MONTHS + month;
            return at(owed, cell) * rates.latest(cell, 0, k, USUAL_RATE) / 1000;
        }

        int unpaidFor(int land, int month) {
            return (int) at(notPaid, land * MONTHS + month);
        }

        int chargesIn(int land) {
            long sum = 0;
            for (int cell = land * MONTHS; cell < (land + 1) * MONTHS; cell++) {
                sum += at(owed, cell) + at(notPaid, cell);
            }
            return (int) sum;
        }

        /** What a LAND gets of a deposit, if the PROVIDER whose CHARGES are added up FALLS. */
        long shareOf(int land, long deposit, int k) {
            long all = addDebts(k);
            long debt = at(debts, land);
            if (all <= 0 || all <= deposit) {
                return debt;
            }
            long left = deposit;
            int ahead = 0;
            long rest = deposit * debt % all;
            for (int other = 0; other < LANDS; other++) {
                long product = deposit * at(debts, other);
                left -= product / all;
                if (product % all > rest || product % all == rest && other < land) {
                    ahead++;
                }
            }
            return deposit * debt / all + (ahead < left ? 1 : 0);
        }

        private long addDebts(int k) {
            long all = 0;
            for (int land = 0; land < LANDS; land++) {
                long debt = 0;
                for (int month = 0; month < MONTHS; month++) {
                    debt += dueFor(land, month, k);
                }
                put(debts, land, debt);
                all += debt;
            }
            return all;
        }
    }

    /** The WAYS, and which CAMERAS see most of their LORRIES. */
    private static final class Watch {
        private static final int MOST_ROADS = 6;
        private static final int MOST_LORRIES = 999;

        private int many;
        private final int[] roads = new int[WAYS];
        private final int[] lorries = new int[WAYS];
        /** THE BEST for each number of cameras, found anew when a WAY has come. */
        private final int[] best = new int[CAMERAS + 1];
        private boolean found;

        static int roadAt(long row, int i) {
            return (int) (row >>> 6 * i & 63);
        }

        boolean takes(int length, int itsLorries) {
            return many < WAYS && isWithin(length, 1, MOST_ROADS) && isWithin(itsLorries, 1, MOST_LORRIES);
        }

        int add(int length, long row, int itsLorries) {
            int set = 0;
            for (int i = 0; i < length; i++) {
                int road = roadAt(row, i);
                set |= road < CAMERAS ? 1 << road : 0;
            }
            put(roads, many, set);
            put(lorries, many, itsLorries);
            found = false;
            return many++;
        }

        /** The ROADS of WAYS are ROADS 0 to 11 alone, so that other bits find nothing. */
        int seenBy(int set) {
            int sum = 0;
            for (int i = 0; i < many; i++) {
                if ((at(roads, i) & set) != 0) {
                    sum += at(lorries, i);
                }
            }
            return sum;
        }

        int bestOf(int most) {
            if (!found) {
                findBest();
                found = true;
            }
            return at(best, most);
        }

        /** Looks at the sets of ROADS of WAYS alone: another ROAD would make a set no better, but larger. */
        private void findBest() {
            int all = 0;
            for (int i = 0; i < many; i++) {
                all |= at(roads, i);
            }
            Arrays.fill(best, 0);
            for (int set = 1; set < 1 << CAMERAS; set++) {
                int size = Integer.bitCount(set);
                if ((set & ~all) == 0 && isBetter(set, at(best, size))) {
                    put(best, size, set);
                }
            }
            for (int size = 1; size <= CAMERAS; size++) {
                int fewer = at(best, size - 1);
                if (seenBy(at(best, size)) <= seenBy(fewer)) {
                    put(best, size, fewer);
                }
            }
        }

        /** Whether a set sees more than another of its size, or as much with the first ROAD in which they differ. */
        private boolean isBetter(int set, int other) {
            int gain = seenBy(set) - seenBy(other);
            int unlike = set ^ other;
            return gain > 0 || gain == 0 && (set & unlike & -unlike) != 0;
        }
    }
}
