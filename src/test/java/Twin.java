import java.util.ArrayList;
import java.util.Collections;
import java.util.Comparator;
import java.util.HashMap;
import java.util.List;
import java.util.Map;
import java.util.NoSuchElementException;

/**
 * The document once more, told in another way: whole lists, trees of expressions, every way tried. It shares no code
 * with TollTags, so that a slip in one of the two shows as a difference.
 */
final class Twin {
    record Road(int from, int to, int land, int km, int sort, boolean gantry) { }

    record Box(int lorry, int provider) { }

    record Lorry(int axles, int fumes) { }

    static final class Signal {
        int number, box, road, t, told;
        Integer back;
    }

    static final class Dispute {
        Signal of;
        boolean decided;
    }

    record Decision(Signal of, int how, int road, int at) { }

    record Black(int box, boolean on, int m, int told) { }

    record Rate(int land, int month, int parts, int told) { }

    record Terms(int land, int from, int told, Text text) { }

    record Way(List<Integer> roads, int lorries) { }

    static final class Passage {
        Road road;
        int roadNumber, minute, box, charge, gone;
        int signal = -1;
        boolean doubled, unpaid;
    }

    static final class Track {
        final List<Passage> passages = new ArrayList<>();
        int broken;
    }

    final List<Road> roads = new ArrayList<>();
    final List<Integer> deposits = new ArrayList<>();
    final List<Lorry> lorries = new ArrayList<>();
    final List<Box> boxes = new ArrayList<>();
    final List<Signal> signals = new ArrayList<>();
    final List<Dispute> disputes = new ArrayList<>();
    final List<Decision> decisions = new ArrayList<>();
    final List<Black> blacks = new ArrayList<>();
    final List<Rate> rates = new ArrayList<>();
    final List<Terms> terms = new ArrayList<>();
    final List<Way> ways = new ArrayList<>();
    final List<Integer> tape = new ArrayList<>();
    int lands, now, surplus;
    int faultPlace = -1;

    static void need(boolean b) {
        if (!b) {
            throw new NoSuchElementException();
        }
    }

    static void legal(boolean b) {
        if (!b) {
            throw new IllegalArgumentException();
        }
    }

    static boolean in(int x, int low, int high) {
        return low <= x && x <= high;
    }

    static boolean of(int x, List<?> list) {
        return in(x, 0, list.size() - 1);
    }

    int land() {
        return lands == 9 ? -1 : lands++;
    }

    int road(int from, int to, int land, int km, int sort, boolean gantry) {
        need(in(land, 0, lands - 1));
        if (roads.size() == 40 || !in(from, 0, 23) || !in(to, 0, 23) || from == to || !in(km, 1, 999) || !in(sort, 0, 3)) {
            return -1;
        }
        roads.add(new Road(from, to, land, km, sort, gantry));
        return roads.size() - 1;
    }

    int provider(int deposit) {
        if (deposits.size() == 6 || !in(deposit, 0, 1000000)) {
            return -1;
        }
        deposits.add(deposit);
        return deposits.size() - 1;
    }

    int lorry(int axles, int fumes) {
        if (lorries.size() == 16 || !in(axles, 2, 9) || !in(fumes, 0, 6)) {
            return -1;
        }
        lorries.add(new Lorry(axles, fumes));
        return lorries.size() - 1;
    }

    int box(int lorry, int provider) {
        need(of(lorry, lorries) && of(provider, deposits));
        if (boxes.size() == 24) {
            return -1;
        }
        boxes.add(new Box(lorry, provider));
        return boxes.size() - 1;
    }

    int go(int n) {
        legal(n >= 0 && (long) now + n <= 129599);
        return now += n;
    }

    int signal(int box, int road, int t) {
        need(of(box, boxes) && of(road, roads));
        if (signals.size() == 300 || !roads.get(road).gantry || !in(t, 0, now)) {
            return -1;
        }
        Signal s = new Signal();
        s.number = signals.size();
        s.box = box;
        s.road = road;
        s.t = t;
        s.told = now;
        signals.add(s);
        return s.number;
    }

    boolean back(int signal) {
        need(of(signal, signals));
        Signal s = signals.get(signal);
        if (s.back != null) {
            return false;
        }
        s.back = now;
        return true;
    }

    int dispute(int signal) {
        need(of(signal, signals));
        if (disputes.size() == 40) {
            return -1;
        }
        Dispute d = new Dispute();
        d.of = signals.get(signal);
        disputes.add(d);
        return disputes.size() - 1;
    }

    boolean decide(int dispute, int how, int road) {
        need(of(dispute, disputes));
        need(how != 2 || of(road, roads));
        Dispute d = disputes.get(dispute);
        if (d.decided || !in(how, 0, 2) || how == 2 && !roads.get(road).gantry) {
            return false;
        }
        d.decided = true;
        decisions.add(new Decision(d.of, how, road, now));
        return true;
    }

    int feed(int a, int b, int c, int d, int e) {
        if (tape.size() + 20 > 400) {
            return -1;
        }
        for (int number : new int[] {a, b, c, d, e}) {
            tape.add(number >> 24 & 255);
            tape.add(number >> 16 & 255);
            tape.add(number >> 8 & 255);
            tape.add(number & 255);
        }
        return tape.size();
    }

    int terms(int land, int n, int from) {
        need(in(land, 0, lands - 1));
        legal(in(n, 0, tape.size()));
        List<Integer> bytes = new ArrayList<>(tape.subList(0, n));
        tape.clear();
        faultPlace = -1;
        if (terms.stream().filter(w -> w.land == land).count() == 4 || !in(from, 0, 129599)) {
            return 9;
        }
        try {
            terms.add(new Terms(land, from, now, new Text(bytes)));
            return 0;
        } catch (Fault f) {
            faultPlace = f.place;
            return f.kind;
        }
    }

    int attempt(int land, int n, int from) {
        need(in(land, 0, lands - 1));
        legal(in(n, 0, tape.size()));
        List<Integer> bytes = new ArrayList<>(tape.subList(0, n));
        tape.clear();
        faultPlace = -1;
        if (!in(from, 0, 129599)) {
            return 9;
        }
        try {
            Terms tried = new Terms(land, from, now, new Text(bytes));
            int before = allCharges(land);
            terms.add(tried);
            surplus = allCharges(land) - before;
            terms.remove(terms.size() - 1);
            return 0;
        } catch (Fault f) {
            faultPlace = f.place;
            return f.kind;
        }
    }

    private int allCharges(int land) {
        return passages(now).stream().filter(p -> p.road.land == land).mapToInt(p -> p.charge).sum();
    }

    int fault() {
        return faultPlace;
    }

    int more() {
        return surplus;
    }

    int black(int box, boolean on, int m) {
        need(of(box, boxes));
        if (blacks.size() == 60) {
            return -1;
        }
        blacks.add(new Black(box, on, m, now));
        return blacks.size();
    }

    boolean rate(int land, int month, int parts) {
        need(in(land, 0, lands - 1));
        if (!in(month, 0, 2) || !in(parts, 1, 99999) || rates.size() == 60) {
            return false;
        }
        rates.add(new Rate(land, month, parts, now));
        return true;
    }

    int track(int box, int what, int k) {
        need(of(box, boxes) && in(what, 0, 5));
        legal(in(k, 0, now));
        Track track = trackOf(box, k);
        int sum = 0;
        for (Passage p : track.passages) {
            switch (what) {
                case 0 -> sum++;
                case 2 -> sum += p.charge;
                case 3 -> sum += p.road.km;
                case 4 -> sum += p.doubled ? 1 : 0;
                case 5 -> sum += p.signal < 0 ? 1 : 0;
                default -> { }
            }
        }
        return what == 1 ? track.broken : sum;
    }

    int passage(int box, int i, int what, int k) {
        need(of(box, boxes) && in(what, 0, 6));
        legal(in(k, 0, now));
        List<Passage> all = trackOf(box, k).passages;
        need(of(i, all));
        Passage p = all.get(i);
        return switch (what) {
            case 0 -> p.roadNumber;
            case 1 -> p.minute;
            case 2 -> p.charge;
            case 3 -> p.signal;
            case 4 -> p.doubled ? 1 : 0;
            case 5 -> p.gone;
            default -> p.unpaid ? 1 : 0;
        };
    }

    long due(int provider, int land, int month, int k) {
        need(of(provider, deposits) && in(land, 0, lands - 1) && in(month, 0, 2));
        legal(in(k, 0, now));
        return dueOf(provider, land, month, k);
    }

    private long dueOf(int provider, int land, int month, int k) {
        long sum = 0;
        for (Passage p : passages(k)) {
            if (boxes.get(p.box).provider == provider && p.road.land == land && p.minute / 43200 == month && !p.unpaid) {
                sum += p.charge;
            }
        }
        int parts = 1000;
        for (Rate r : rates) {
            if (r.land == land && r.month == month && r.told <= k) {
                parts = r.parts;
            }
        }
        return sum * parts / 1000;
    }

    int unpaid(int land, int month, int k) {
        need(in(land, 0, lands - 1) && in(month, 0, 2));
        legal(in(k, 0, now));
        return passages(k).stream().filter(p -> p.road.land == land && p.minute / 43200 == month && p.unpaid)
            .mapToInt(p -> p.charge).sum();
    }

    long falls(int provider, int land, int k) {
        need(of(provider, deposits) && in(land, 0, lands - 1));
        legal(in(k, 0, now));
        long[] owed = new long[lands];
        long all = 0;
        for (int l = 0; l < lands; l++) {
            for (int month = 0; month < 3; month++) {
                owed[l] += dueOf(provider, l, month, k);
            }
            all += owed[l];
        }
        long deposit = deposits.get(provider);
        if (deposit >= all) {
            return owed[land];
        }
        long[] gets = new long[lands];
        List<Integer> byRest = new ArrayList<>();
        long left = deposit;
        for (int l = 0; l < lands; l++) {
            gets[l] = deposit * owed[l] / all;
            left -= gets[l];
            byRest.add(l);
        }
        long sum = all;
        byRest.sort(Comparator.comparingLong((Integer l) -> -(deposit * owed[l] % sum)).thenComparing(l -> l));
        for (int i = 0; left > 0; i++, left--) {
            gets[byRest.get(i)]++;
        }
        return gets[land];
    }

    int way(int many, long row, int lorries) {
        if (ways.size() == 20 || !in(many, 1, 6) || !in(lorries, 1, 999)) {
            return -1;
        }
        List<Integer> its = new ArrayList<>();
        for (int i = 0; i < many; i++) {
            its.add((int) (row >> 6 * i & 63));
        }
        need(its.stream().allMatch(r -> of(r, roads)));
        ways.add(new Way(its, lorries));
        return ways.size() - 1;
    }

    int sees(int set) {
        return ways.stream().filter(w -> w.roads.stream().anyMatch(r -> r < 12 && (set >> r & 1) != 0))
            .mapToInt(w -> w.lorries).sum();
    }

    int cameras(int m) {
        legal(in(m, 0, 12));
        return best(0, m, 0);
    }

    /** The best of all sets that have what is set, and take up to m more of the ROADS from one on. */
    private int best(int from, int m, int set) {
        if (from == Math.min(12, roads.size())) {
            return set;
        }
        int with = m == 0 ? set : best(from + 1, m - 1, set | 1 << from);
        int without = best(from + 1, m, set);
        int gain = sees(with) - sees(without);
        if (gain == 0) {
            gain = Integer.bitCount(without) - Integer.bitCount(with);
        }
        return gain >= 0 && m > 0 ? with : without;
    }

    int count(int what) {
        return switch (what) {
            case 0 -> now;
            case 1 -> lands;
            case 2 -> roads.size();
            case 3 -> deposits.size();
            case 4 -> lorries.size();
            case 5 -> boxes.size();
            case 6 -> signals.size();
            case 7 -> disputes.size();
            case 8 -> ways.size();
            case 9 -> tape.size();
            default -> throw new NoSuchElementException();
        };
    }

    // ---- as known at k

    /** The TERMS that count, or those of an empty text. */
    private Text textFor(int land, int t, int k) {
        Terms best = null;
        for (Terms w : terms) {
            if (w.land == land && w.told <= k && w.from <= t && (best == null || w.from >= best.from)) {
                best = w;
            }
        }
        return best == null ? new Text(List.of()) : best.text;
    }

    /** Where a SIGNAL is, if it COUNTS; else -1. */
    private int where(Signal s, int k) {
        if (s.told > k || s.back != null && s.back <= k) {
            return -1;
        }
        Decision last = null;
        for (Decision d : decisions) {
            if (d.of == s && d.at <= k && d.how != 0) {
                last = d;
            }
        }
        if (last != null && last.how == 1) {
            return -1;
        }
        int road = last == null ? s.road : last.road;
        return s.told <= s.t + textFor(roads.get(road).land, s.t, k).late ? road : -1;
    }

    private boolean isDouble(Signal s, int k) {
        int road = where(s, k);
        int near = textFor(roads.get(road).land, s.t, k).near;
        for (Signal o : signals) {
            boolean twin = o.box != s.box && boxes.get(o.box).lorry == boxes.get(s.box).lorry && where(o, k) == road;
            if (twin && Math.abs(o.t - s.t) <= near && (o.t < s.t || o.t == s.t && o.number < s.number)) {
                return true;
            }
        }
        return false;
    }

    private boolean isBlack(int box, int t, int k) {
        boolean on = false;
        for (Black b : blacks) {
            if (b.box == box && b.told <= k && b.m <= t) {
                on = b.on;
            }
        }
        return on;
    }

    private List<Passage> passages(int k) {
        List<Passage> all = new ArrayList<>();
        for (int box = 0; box < boxes.size(); box++) {
            all.addAll(trackOf(box, k).passages);
        }
        return all;
    }

    private Track trackOf(int box, int k) {
        Track track = new Track();
        List<Signal> its = new ArrayList<>();
        for (Signal s : signals) {
            if (s.box == box && where(s, k) >= 0) {
                its.add(s);
            }
        }
        its.sort(Comparator.comparingInt(s -> s.t));
        for (int i = 0; i < its.size(); i++) {
            Signal s = its.get(i);
            Passage p = passageOn(where(s, k), s.t, box);
            p.signal = s.number;
            p.doubled = isDouble(s, k);
            track.passages.add(p);
            if (i + 1 < its.size() && its.get(i + 1).t - s.t <= 180) {
                int end = roads.get(where(its.get(i + 1), k)).from;
                List<Integer> guessed = leastWay(p.road.to, end);
                if (guessed == null) {
                    track.broken++;
                } else {
                    guessed.forEach(r -> track.passages.add(passageOn(r, s.t, box)));
                }
            }
        }
        weigh(track, k);
        return track;
    }

    private Passage passageOn(int road, int minute, int box) {
        Passage p = new Passage();
        p.roadNumber = road;
        p.road = roads.get(road);
        p.minute = minute;
        p.box = box;
        return p;
    }

    private void weigh(Track track, int k) {
        List<Passage> ahead = new ArrayList<>();
        for (Passage p : track.passages) {
            for (Passage a : ahead) {
                if (a.road.land == p.road.land && a.minute / 43200 == p.minute / 43200 && !a.doubled) {
                    p.gone += a.road.km;
                }
            }
            ahead.add(p);
            p.unpaid = isBlack(p.box, p.minute, k);
            Lorry lorry = lorries.get(boxes.get(p.box).lorry);
            Map<String, Integer> values = new HashMap<>();
            values.put("axles", lorry.axles);
            values.put("fumes", lorry.fumes);
            values.put("km", p.road.km);
            values.put("hour", p.minute / 60 % 24);
            values.put("weekday", p.minute / 1440 % 7);
            values.put("sort", p.road.sort);
            values.put("gone", p.gone);
            values.put("guessed", p.signal < 0 ? 1 : 0);
            p.charge = p.doubled ? 0 : textFor(p.road.land, p.minute, k).charge(values);
        }
    }

    /** Tries every way without a NODE twice; null: there is none. */
    List<Integer> leastWay(int from, int to) {
        List<List<Integer>> found = new ArrayList<>();
        if (from == to) {
            return List.of();
        }
        search(from, to, new boolean[24], new ArrayList<>(), found);
        return found.isEmpty() ? null : Collections.min(found, this::compareWays);
    }

    private void search(int node, int to, boolean[] been, List<Integer> row, List<List<Integer>> found) {
        if (node == to) {
            found.add(new ArrayList<>(row));
            return;
        }
        been[node] = true;
        for (int r = 0; r < roads.size(); r++) {
            Road road = roads.get(r);
            if (road.from == node && !road.gantry && !been[road.to]) {
                row.add(r);
                search(road.to, to, been, row, found);
                row.remove(row.size() - 1);
            }
        }
        been[node] = false;
    }

    private int compareWays(List<Integer> a, List<Integer> b) {
        int kmA = a.stream().mapToInt(r -> roads.get(r).km).sum();
        int kmB = b.stream().mapToInt(r -> roads.get(r).km).sum();
        if (kmA != kmB) {
            return Integer.compare(kmA, kmB);
        }
        if (a.size() != b.size()) {
            return Integer.compare(a.size(), b.size());
        }
        for (int i = 0; i < a.size(); i++) {
            if (!a.get(i).equals(b.get(i))) {
                return Integer.compare(a.get(i), b.get(i));
            }
        }
        return 0;
    }

    // ---- texts

    static final class Fault extends RuntimeException {
        final int kind, place;

        Fault(int kind, int place) {
            this.kind = kind;
            this.place = place;
        }
    }

    interface Expr {
        int of(Map<String, Integer> values);
    }

    record Token(String text, int place) {
        boolean word() {
            return !text.isEmpty() && text.charAt(0) >= 'a' && text.charAt(0) <= 'z';
        }

        boolean digits() {
            return !text.isEmpty() && text.charAt(0) >= '0' && text.charAt(0) <= '9';
        }

        boolean is(String... some) {
            return List.of(some).contains(text);
        }
    }

    /** A text read by the grammar, a function for each of its rows. */
    static final class Text {
        int late = 10080;
        int near = 30;
        private Expr toll;
        private final List<Expr> frees = new ArrayList<>();
        private final List<Token> tokens = new ArrayList<>();
        private int next;

        Text(List<Integer> bytes) {
            split(bytes);
            for (int clauses = 1; !peek().is(""); clauses++) {
                if (!peek().is("toll", "free", "late", "double")) {
                    fault(1);
                }
                if (clauses == 17) {
                    fault(2);
                }
                clause(take().text);
            }
        }

        int charge(Map<String, Integer> values) {
            for (Expr free : frees) {
                if (free.of(values) != 0) {
                    return 0;
                }
            }
            return toll == null ? 10 * values.get("km") : Math.max(0, Math.min(99999, toll.of(values)));
        }

        private void split(List<Integer> bytes) {
            int i = 0;
            while (i < bytes.size()) {
                int start = i;
                StringBuilder text = new StringBuilder();
                if (isLetter(bytes.get(i))) {
                    while (i < bytes.size() && isLetter(bytes.get(i))) {
                        text.append((char) bytes.get(i++).intValue());
                    }
                } else if (isDigit(bytes.get(i))) {
                    while (i < bytes.size() && isDigit(bytes.get(i))) {
                        text.append((char) bytes.get(i++).intValue());
                    }
                } else {
                    text.append((char) bytes.get(i++).intValue());
                }
                if (!text.toString().equals(" ") && !text.toString().equals("\n")) {
                    tokens.add(new Token(text.toString(), start));
                }
            }
            tokens.add(new Token("", bytes.size()));
        }

        private static boolean isLetter(int b) {
            return b >= 'a' && b <= 'z';
        }

        private static boolean isDigit(int b) {
            return b >= '0' && b <= '9';
        }

        private Token peek() {
            return tokens.get(next);
        }

        private Token take() {
            return tokens.get(next++);
        }

        private void fault(int kind) {
            throw new Fault(kind, peek().place);
        }

        private void clause(String head) {
            switch (head) {
                case "toll" -> toll = expr(0);
                case "free" -> frees.add(expr(0));
                case "late" -> late = number();
                default -> near = number();
            }
            sign(";");
        }

        private void sign(String sign) {
            if (!peek().is(sign)) {
                fault(1);
            }
            take();
        }

        private int number() {
            if (!peek().digits()) {
                fault(1);
            }
            if (peek().text.length() > 5) {
                fault(2);
            }
            return Integer.parseInt(take().text);
        }

        private Expr expr(int within) {
            if (within == 6 && (peek().digits() || peek().word() || peek().is("("))) {
                fault(2);
            }
            Expr left = and(within);
            while (peek().is("or")) {
                take();
                Expr a = left, b = and(within);
                left = v -> a.of(v) != 0 | b.of(v) != 0 ? 1 : 0;
            }
            return left;
        }

        private Expr and(int within) {
            Expr left = not(within, 1);
            while (peek().is("and")) {
                take();
                Expr a = left, b = not(within, 1);
                left = v -> a.of(v) != 0 & b.of(v) != 0 ? 1 : 0;
            }
            return left;
        }

        private Expr not(int within, int many) {
            if (peek().is("not")) {
                if (many == 7) {
                    fault(2);
                }
                take();
                Expr a = not(within, many + 1);
                return v -> a.of(v) == 0 ? 1 : 0;
            }
            Expr a = sum(within);
            if (!peek().is("<", "=")) {
                return a;
            }
            boolean less = take().is("<");
            Expr b = sum(within);
            return less ? v -> a.of(v) < b.of(v) ? 1 : 0 : v -> a.of(v) == b.of(v) ? 1 : 0;
        }

        private Expr sum(int within) {
            Expr left = product(within);
            while (peek().is("+", "-")) {
                boolean plus = take().is("+");
                Expr a = left, b = product(within);
                left = plus ? v -> a.of(v) + b.of(v) : v -> a.of(v) - b.of(v);
            }
            return left;
        }

        private Expr product(int within) {
            Expr left = part(within);
            while (peek().is("*", "/")) {
                boolean times = take().is("*");
                Expr a = left, b = part(within);
                left = times ? v -> a.of(v) * b.of(v) : v -> b.of(v) == 0 ? 0 : a.of(v) / b.of(v);
            }
            return left;
        }

        private Expr part(int within) {
            if (peek().digits()) {
                int n = number();
                return v -> n;
            }
            if (peek().word()) {
                if (!peek().is("axles", "fumes", "km", "hour", "weekday", "sort", "gone", "guessed")) {
                    fault(3);
                }
                String name = take().text;
                return v -> v.get(name);
            }
            sign("(");
            Expr inner = expr(within + 1);
            sign(")");
            return inner;
        }
    }
}
