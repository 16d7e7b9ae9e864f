import java.util.ArrayDeque;
import java.util.Deque;
import java.util.Random;

/** Random runs of calls, each answered by TollTags and by its Twin; and random texts for both to read. */
public final class TwinTests {
    private static final int RUNS = Integer.getInteger("runs", 400);
    private static final int TEXTS = Integer.getInteger("texts", 20000);

    private final Random random;
    private final Texts texts;
    private final TollTags x = new TollTags();
    private final Twin y = new Twin();
    private final Deque<String> calls = new ArrayDeque<>();
    private final int nodes;
    private final int boxes;
    private final boolean hasty;
    private boolean alike = true;

    private TwinTests(long seed) {
        random = new Random(seed);
        texts = new Texts(random);
        nodes = 3 + random.nextInt(random.nextInt(3) == 0 ? 21 : 4);
        boxes = 1 + random.nextInt(random.nextInt(4) == 0 ? 25 : 6);
        hasty = random.nextBoolean();
    }

    public static void main(String[] args) {
        for (long seed = 0; seed < RUNS; seed++) {
            TwinTests run = new TwinTests(seed);
            run.calls(120 + new Random(seed).nextInt(390));
            Checks.same("run " + seed + run.tail(), 1, Checks.truth(run.alike));
        }
        for (long seed = 0; seed < TEXTS / 500; seed++) {
            TwinTests run = new TwinTests(-1 - seed);
            run.same("land", Checks.outcome(run.x::land), Checks.outcome(run.y::land));
            for (int i = 0; i < 500 && run.alike; i++) {
                run.nearText();
            }
            Checks.same("texts " + seed + run.tail(), 1, Checks.truth(run.alike));
        }
        Checks.end();
    }

    private String tail() {
        return alike ? "" : String.join("\n  ", calls);
    }

    private void same(String call, long got, long want) {
        if (calls.size() == 60) {
            calls.removeFirst();
        }
        calls.addLast(call + " -> " + got + (got == want ? "" : " BUT THE TWIN: " + want));
        alike &= got == want;
    }

    private void nearText() {
        tell(texts.nearly(400));
        int n = y.tape.size();
        same("attempt", Checks.outcome(() -> x.attempt(0, n, 0)), Checks.outcome(() -> y.attempt(0, n, 0)));
        same("fault", x.fault(), y.fault());
    }

    private void calls(int many) {
        setUp();
        for (int i = 0; i < many && alike; i++) {
            switch (random.nextInt(hasty ? 22 : 26)) {
                case 0, 1, 2, 3, 4, 5 -> signal();
                case 6 -> go();
                case 7 -> backOrDispute();
                case 8 -> decide();
                case 9 -> termsOrAttempt();
                case 10 -> black();
                case 11 -> rate();
                case 12 -> addSome();
                case 13 -> wayAndCameras();
                case 14, 15 -> due();
                case 16 -> count();
                case 17, 18, 19 -> track();
                default -> passage();
            }
        }
    }

    private int upTo(int n) {
        return random.nextInt(60) == 0 ? n + random.nextInt(3) : random.nextInt(60) == 0 ? -1 : random.nextInt(Math.max(1, n));
    }

    private int known() {
        return random.nextInt(40) == 0 ? y.now + 1 : random.nextInt(40) == 0 ? -1
            : random.nextBoolean() ? y.now : random.nextInt(y.now + 1);
    }

    private int odd(int usual) {
        int[] some = {0, 1, -1, Integer.MIN_VALUE, Integer.MAX_VALUE, usual + 1, -usual, 1000, 999, 1000001};
        return random.nextInt(50) == 0 ? some[random.nextInt(some.length)] : usual;
    }

    private void setUp() {
        for (int i = random.nextInt(4) == 0 ? 10 : 1 + random.nextInt(3); i > 0; i--) {
            same("land", x.land(), y.land());
        }
        for (int i = 1 + random.nextInt(3); i > 0; i--) {
            provider();
        }
        for (int i = 1 + random.nextInt(3); i > 0; i--) {
            lorry();
        }
        for (int i = boxes; i > 0; i--) {
            box();
        }
        for (int i = 4 + random.nextInt(random.nextInt(4) == 0 ? 40 : 12); i > 0; i--) {
            road();
        }
        go();
    }

    private void provider() {
        int deposit = odd(random.nextInt(3) == 0 ? random.nextInt(1000001) : random.nextInt(3000));
        same("provider " + deposit, x.provider(deposit), y.provider(deposit));
    }

    private void lorry() {
        int axles = odd(2 + random.nextInt(8)), fumes = odd(random.nextInt(7));
        same("lorry " + axles + " " + fumes, x.lorry(axles, fumes), y.lorry(axles, fumes));
    }

    private void box() {
        int lorry = upTo(y.lorries.size()), provider = upTo(y.deposits.size());
        same("box " + lorry + " " + provider, Checks.outcome(() -> x.box(lorry, provider)),
            Checks.outcome(() -> y.box(lorry, provider)));
    }

    private void road() {
        int from = odd(random.nextInt(nodes)), to = odd(random.nextInt(nodes)), land = upTo(y.lands);
        int km = odd(random.nextBoolean() ? 1 + random.nextInt(4) : 1 + random.nextInt(999)), sort = odd(random.nextInt(4));
        boolean gantry = random.nextInt(3) == 0;
        same("road " + from + " " + to + " " + land + " " + km + " " + sort + " " + gantry,
            Checks.outcome(() -> x.road(from, to, land, km, sort, gantry)),
            Checks.outcome(() -> y.road(from, to, land, km, sort, gantry)));
    }

    private void addSome() {
        switch (random.nextInt(6)) {
            case 0 -> same("land", x.land(), y.land());
            case 1 -> provider();
            case 2 -> lorry();
            case 3 -> box();
            default -> road();
        }
    }

    private void go() {
        int[] steps = {0, 1, 10, 60, 200, 1440, 20000, 43200, 129599, -1, Integer.MAX_VALUE};
        int n = steps[random.nextInt(random.nextInt(10) == 0 ? steps.length : random.nextInt(4) == 0 ? 7 : 5)];
        same("go " + n, Checks.outcome(() -> x.go(n)), Checks.outcome(() -> y.go(n)));
    }

    private void signal() {
        int box = upTo(y.boxes.size()), road = upTo(y.roads.size());
        for (int i = 0; i < 4 && Twin.of(road, y.roads) && !y.roads.get(road).gantry(); i++) {
            road = upTo(y.roads.size());
        }
        int its = road;
        int t = odd(random.nextInt(8) == 0 ? random.nextInt(y.now + 1)
            : random.nextInt(10) == 0 ? y.now + 1 : Math.max(0, y.now - random.nextInt(hasty ? 60 : 400)));
        same("signal " + box + " " + its + " " + t, Checks.outcome(() -> x.signal(box, its, t)),
            Checks.outcome(() -> y.signal(box, its, t)));
    }

    private void backOrDispute() {
        int signal = upTo(y.signals.size());
        if (random.nextInt(3) == 0) {
            same("back " + signal, Checks.outcome(() -> Checks.truth(x.back(signal))),
                Checks.outcome(() -> Checks.truth(y.back(signal))));
        } else {
            same("dispute " + signal, Checks.outcome(() -> x.dispute(signal)), Checks.outcome(() -> y.dispute(signal)));
        }
    }

    private void decide() {
        int dispute = upTo(y.disputes.size()), how = odd(random.nextInt(4) == 0 ? random.nextInt(3) : 2);
        int road = upTo(y.roads.size());
        same("decide " + dispute + " " + how + " " + road,
            Checks.outcome(() -> Checks.truth(x.decide(dispute, how, road))),
            Checks.outcome(() -> Checks.truth(y.decide(dispute, how, road))));
    }

    private void tell(String text) {
        byte[] bytes = Checks.bytes(text);
        calls.addLast("text " + text);
        for (int i = 0; i < bytes.length; i += 20) {
            int a = Checks.four(bytes, i), b = Checks.four(bytes, i + 4), c = Checks.four(bytes, i + 8);
            int d = Checks.four(bytes, i + 12), e = Checks.four(bytes, i + 16);
            same("feed", x.feed(a, b, c, d, e), y.feed(a, b, c, d, e));
        }
    }

    private void termsOrAttempt() {
        tell(random.nextInt(4) == 0 ? texts.nearly(300) : texts.terms(300));
        int n = odd(y.tape.size()), land = upTo(y.lands);
        int from = odd(random.nextBoolean() ? 0 : random.nextInt(y.now + 2));
        if (random.nextInt(3) == 0) {
            same("attempt " + land + " " + n + " " + from, Checks.outcome(() -> x.attempt(land, n, from)),
                Checks.outcome(() -> y.attempt(land, n, from)));
            same("more", x.more(), y.more());
        } else {
            same("terms " + land + " " + n + " " + from, Checks.outcome(() -> x.terms(land, n, from)),
                Checks.outcome(() -> y.terms(land, n, from)));
        }
        same("fault", x.fault(), y.fault());
    }

    private void black() {
        int box = upTo(y.boxes.size()), m = odd(random.nextInt(y.now + 1));
        boolean on = random.nextInt(3) != 0;
        same("black " + box + " " + on + " " + m, Checks.outcome(() -> x.black(box, on, m)),
            Checks.outcome(() -> y.black(box, on, m)));
    }

    private void rate() {
        int land = upTo(y.lands), month = upTo(3), parts = odd(1 + random.nextInt(random.nextBoolean() ? 99999 : 2000));
        same("rate " + land + " " + month + " " + parts, Checks.outcome(() -> Checks.truth(x.rate(land, month, parts))),
            Checks.outcome(() -> Checks.truth(y.rate(land, month, parts))));
    }

    private void wayAndCameras() {
        int many = odd(1 + random.nextInt(6)), lorries = odd(random.nextBoolean() ? 7 : 1 + random.nextInt(999));
        long row = 0;
        for (int i = 0; i < 6; i++) {
            row |= (long) (upTo(y.roads.size()) & 63) << 6 * i;
        }
        long its = random.nextInt(10) == 0 ? random.nextLong() : row;
        same("way " + many + " " + its + " " + lorries, Checks.outcome(() -> x.way(many, its, lorries)),
            Checks.outcome(() -> y.way(many, its, lorries)));
        int set = random.nextBoolean() ? random.nextInt() : 1 << random.nextInt(14);
        same("sees " + set, x.sees(set), y.sees(set));
        if (random.nextInt(3) == 0) {
            int m = upTo(13);
            same("cameras " + m, Checks.outcome(() -> x.cameras(m)), Checks.outcome(() -> y.cameras(m)));
        }
    }

    private void due() {
        int provider = upTo(y.deposits.size()), land = upTo(y.lands), month = upTo(3), k = known();
        switch (random.nextInt(3)) {
            case 0 -> same("due " + provider + " " + land + " " + month + " " + k,
                Checks.outcome(() -> x.due(provider, land, month, k)), Checks.outcome(() -> y.due(provider, land, month, k)));
            case 1 -> same("unpaid " + land + " " + month + " " + k,
                Checks.outcome(() -> x.unpaid(land, month, k)), Checks.outcome(() -> y.unpaid(land, month, k)));
            default -> same("falls " + provider + " " + land + " " + k,
                Checks.outcome(() -> x.falls(provider, land, k)), Checks.outcome(() -> y.falls(provider, land, k)));
        }
    }

    private void count() {
        int what = upTo(10);
        same("count " + what, Checks.outcome(() -> x.count(what)), Checks.outcome(() -> y.count(what)));
    }

    private void track() {
        int box = upTo(y.boxes.size()), what = upTo(6), k = known();
        same("track " + box + " " + what + " " + k, Checks.outcome(() -> x.track(box, what, k)),
            Checks.outcome(() -> y.track(box, what, k)));
    }

    private void passage() {
        int box = upTo(y.boxes.size()), what = upTo(7), k = known();
        long has = Checks.outcome(() -> y.track(box, 0, k));
        int i = upTo((int) Math.max(1, has));
        same("passage " + box + " " + i + " " + what + " " + k, Checks.outcome(() -> x.passage(box, i, what, k)),
            Checks.outcome(() -> y.passage(box, i, what, k)));
    }
}
