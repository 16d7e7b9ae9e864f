/** Each promise of the document with answers worked out by hand: ordinary calls, the edges, wrong ones. */
public final class PromiseTests {
    private static final int NONE = TollTags.NONE;
    private static final int NO_SUCH = Checks.NO_SUCH;
    private static final int ILLEGAL = Checks.ILLEGAL;
    private static final int MIN = Integer.MIN_VALUE;
    private static final int MAX = Integer.MAX_VALUE;

    private PromiseTests() {
    }

    public static void main(String[] args) {
        newObject();
        lands();
        roads();
        providers();
        lorries();
        boxes();
        go();
        signals();
        backs();
        disputes();
        decisions();
        lastDecision();
        feed();
        terms();
        places();
        values();
        faultPlaces();
        faultsOfClauses();
        faultsOfParts();
        reckoning();
        tolls();
        chosenTerms();
        black();
        rates();
        tracks();
        leastWays();
        longestTrack();
        late();
        doubles();
        gone();
        passages();
        due();
        unpaid();
        falls();
        ways();
        cameras();
        sees();
        attempts();
        counts();
        endOfTime();
        Checks.end();
    }

    private static void due(String what, long want, Checks.Call call) {
        Checks.due(what, want, call);
    }

    private static void yes(String what, boolean got) {
        Checks.same(what, 1, Checks.truth(got));
    }

    private static void no(String what, boolean got) {
        Checks.same(what, 0, Checks.truth(got));
    }

    /** A LAND, a PROVIDER of 1000, a LORRY of 5 axles and fumes 3, its BOX; ROAD 0 of 7 km, sort 2, with a GANTRY. */
    private static TollTags small() {
        TollTags x = new TollTags();
        x.land();
        x.provider(1000);
        x.lorry(5, 3);
        x.box(0, 0);
        x.road(0, 1, 0, 7, 2, true);
        return x;
    }

    /** small() at MINUTE 4000 with a SIGNAL for 3000: 3000 is hour 2 of the weekday 2. */
    private static TollTags passed() {
        TollTags x = small();
        x.go(4000);
        x.signal(0, 0, 3000);
        return x;
    }

    /** What the SIGNAL of passed() costs by a text. */
    private static int cost(String text) {
        TollTags x = passed();
        int fault = Checks.terms(x, 0, text, 0);
        return fault == 0 ? x.passage(0, 0, 2, 4000) : -100 * fault - x.fault();
    }

    private static void costs(long want, String text) {
        Checks.same(text, want, cost(text));
    }

    private static void faulty(int kind, int place, String text) {
        TollTags x = new TollTags();
        x.land();
        Checks.same("kind of " + text, kind, Checks.terms(x, 0, text, 0));
        Checks.same("place in " + text, place, x.fault());
        Checks.same("tried, " + text, kind, Checks.attempt(x, 0, text, 0));
        Checks.same("place of try " + text, place, x.fault());
    }

    // Promise 1
    private static void newObject() {
        TollTags x = new TollTags();
        for (int i = 0; i <= 9; i++) {
            Checks.same("new count " + i, 0, x.count(i));
        }
        Checks.same("NONE", -1, TollTags.NONE);
        Checks.same("new fault", NONE, x.fault());
        Checks.same("new more", 0, x.more());
        Checks.same("new sees", 0, x.sees(-1));
        due("new cameras", 0, () -> x.cameras(12));
        due("new track", NO_SUCH, () -> x.track(0, 0, 0));
        due("new unpaid", NO_SUCH, () -> x.unpaid(0, 0, 0));
        TollTags other = new TollTags();
        other.land();
        Checks.same("objects are apart", 0, x.count(1));
    }

    // Promise 2
    private static void lands() {
        TollTags x = new TollTags();
        for (int i = 0; i < 9; i++) {
            Checks.same("land", i, x.land());
        }
        Checks.same("tenth land", NONE, x.land());
        Checks.same("lands", 9, x.count(1));
    }

    // Promise 3
    private static void roads() {
        TollTags x = new TollTags();
        due("no land", NO_SUCH, () -> x.road(0, 1, 0, 1, 0, true));
        x.land();
        due("land -1", NO_SUCH, () -> x.road(0, 1, -1, 1, 0, true));
        due("land 1 ahead of a bad number", NO_SUCH, () -> x.road(0, 0, 1, 1, 0, true));
        int[][] bad = {{-1, 1, 1, 0}, {24, 1, 1, 0}, {0, -1, 1, 0}, {0, 24, 1, 0}, {5, 5, 1, 0}, {0, 1, 0, 0},
            {0, 1, 1000, 0}, {0, 1, 1, -1}, {0, 1, 1, 4}, {MIN, 1, 1, 0}, {0, MAX, 1, 0}, {0, 1, MIN, 0}};
        for (int[] b : bad) {
            due("bad road", NONE, () -> x.road(b[0], b[1], 0, b[2], b[3], false));
        }
        Checks.same("no road yet", 0, x.count(2));
        Checks.same("least road", 0, x.road(0, 23, 0, 1, 0, false));
        Checks.same("greatest road", 1, x.road(23, 0, 0, 999, 3, true));
        for (int i = 2; i < 40; i++) {
            Checks.same("road", i, x.road(1, 2, 0, 5, 1, false));
        }
        Checks.same("41st road", NONE, x.road(1, 2, 0, 5, 1, false));
        due("41st road of no land", NO_SUCH, () -> x.road(1, 2, 1, 5, 1, false));
        Checks.same("roads", 40, x.count(2));
    }

    // Promise 4
    private static void providers() {
        TollTags x = new TollTags();
        Checks.same("deposit -1", NONE, x.provider(-1));
        Checks.same("deposit too great", NONE, x.provider(1000001));
        Checks.same("deposit 0", 0, x.provider(0));
        Checks.same("deposit 1000000", 1, x.provider(1000000));
        for (int i = 2; i < 6; i++) {
            Checks.same("provider", i, x.provider(5));
        }
        Checks.same("seventh provider", NONE, x.provider(5));
        Checks.same("providers", 6, x.count(3));
    }

    // Promise 5
    private static void lorries() {
        TollTags x = new TollTags();
        int[][] bad = {{1, 0}, {10, 0}, {2, -1}, {2, 7}, {MIN, 0}, {2, MAX}};
        for (int[] b : bad) {
            Checks.same("bad lorry", NONE, x.lorry(b[0], b[1]));
        }
        Checks.same("least lorry", 0, x.lorry(2, 0));
        Checks.same("greatest lorry", 1, x.lorry(9, 6));
        for (int i = 2; i < 16; i++) {
            Checks.same("lorry", i, x.lorry(4, 4));
        }
        Checks.same("17th lorry", NONE, x.lorry(4, 4));
        Checks.same("lorries", 16, x.count(4));
    }

    // Promise 6
    private static void boxes() {
        TollTags x = new TollTags();
        due("no lorry", NO_SUCH, () -> x.box(0, 0));
        x.lorry(2, 0);
        due("no provider", NO_SUCH, () -> x.box(0, 0));
        x.provider(0);
        due("lorry 1", NO_SUCH, () -> x.box(1, 0));
        due("provider -1", NO_SUCH, () -> x.box(0, -1));
        for (int i = 0; i < 24; i++) {
            Checks.same("box", i, x.box(0, 0));
        }
        Checks.same("25th box", NONE, x.box(0, 0));
        due("25th box of no lorry", NO_SUCH, () -> x.box(-1, 0));
        Checks.same("boxes", 24, x.count(5));
    }

    // Promise 7
    private static void go() {
        TollTags x = new TollTags();
        due("go 0", 0, () -> x.go(0));
        due("go -1", ILLEGAL, () -> x.go(-1));
        due("go MIN", ILLEGAL, () -> x.go(MIN));
        due("go 129600", ILLEGAL, () -> x.go(129600));
        due("go 5", 5, () -> x.go(5));
        due("go MAX", ILLEGAL, () -> x.go(MAX));
        due("go 129595", ILLEGAL, () -> x.go(129595));
        due("go to the end", 129599, () -> x.go(129594));
        due("go beyond", ILLEGAL, () -> x.go(1));
        due("stay", 129599, () -> x.go(0));
        Checks.same("now", 129599, x.count(0));
    }

    // Promise 8
    private static void signals() {
        TollTags x = small();
        x.road(1, 2, 0, 1, 0, false);
        x.go(10);
        due("no box", NO_SUCH, () -> x.signal(1, 0, 0));
        due("box -1", NO_SUCH, () -> x.signal(-1, 0, 0));
        due("no road", NO_SUCH, () -> x.signal(0, 2, 0));
        due("road -1 ahead of a bad minute", NO_SUCH, () -> x.signal(0, -1, 99));
        due("no gantry", NONE, () -> x.signal(0, 1, 0));
        due("later than now", NONE, () -> x.signal(0, 0, 11));
        due("minute -1", NONE, () -> x.signal(0, 0, -1));
        due("first", 0, () -> x.signal(0, 0, 0));
        due("now", 1, () -> x.signal(0, 0, 10));
        for (int i = 2; i < 300; i++) {
            Checks.same("signal", i, x.signal(0, 0, 5));
        }
        due("301st", NONE, () -> x.signal(0, 0, 5));
        due("301st of no box", NO_SUCH, () -> x.signal(9, 0, 5));
        Checks.same("signals", 300, x.count(6));
        Checks.same("all on the track", 300, x.track(0, 0, 10));
        Checks.same("all km", 2100, x.track(0, 3, 10));
    }

    // Promise 9
    private static void backs() {
        TollTags x = small();
        due("no signal", NO_SUCH, () -> Checks.truth(x.back(0)));
        x.signal(0, 0, 0);
        x.go(5);
        x.signal(0, 0, 5);
        yes("taken back", x.back(0));
        no("again", x.back(0));
        due("signal -1", NO_SUCH, () -> Checks.truth(x.back(-1)));
        due("signal 2", NO_SUCH, () -> Checks.truth(x.back(2)));
        Checks.same("known at 4", 1, x.track(0, 0, 4));
        Checks.same("back at 5, another told", 1, x.track(0, 0, 5));
        Checks.same("which", 1, x.passage(0, 0, 3, 5));
        x.go(1);
        no("again later", x.back(0));
        Checks.same("still back at 5", 1, x.track(0, 0, 5));
        yes("the other", x.back(1));
        Checks.same("none at 6", 0, x.track(0, 0, 6));
        Checks.same("signals stay told", 2, x.count(6));
    }

    // Promise 10
    private static void disputes() {
        TollTags x = small();
        due("no signal", NO_SUCH, () -> x.dispute(0));
        x.signal(0, 0, 0);
        due("signal -1", NO_SUCH, () -> x.dispute(-1));
        due("first", 0, () -> x.dispute(0));
        x.back(0);
        for (int i = 1; i < 40; i++) {
            Checks.same("dispute", i, x.dispute(0));
        }
        due("41st", NONE, () -> x.dispute(0));
        due("41st of no signal", NO_SUCH, () -> x.dispute(1));
        Checks.same("disputes", 40, x.count(7));
    }

    // Promise 11
    private static void decisions() {
        TollTags x = small();
        x.road(2, 3, 0, 1, 0, false);
        x.road(4, 5, 0, 2, 0, true);
        x.signal(0, 0, 0);
        due("no dispute", NO_SUCH, () -> Checks.truth(x.decide(0, 0, 0)));
        x.dispute(0);
        due("dispute -1", NO_SUCH, () -> Checks.truth(x.decide(-1, 0, 0)));
        due("how -1", 0, () -> Checks.truth(x.decide(0, -1, 0)));
        due("how 3, no road", 0, () -> Checks.truth(x.decide(0, 3, 99)));
        due("no road", NO_SUCH, () -> Checks.truth(x.decide(0, 2, 3)));
        due("road -1", NO_SUCH, () -> Checks.truth(x.decide(0, 2, -1)));
        due("no gantry", 0, () -> Checks.truth(x.decide(0, 2, 1)));
        Checks.same("nothing decided", 0, x.passage(0, 0, 0, 0));
        x.go(3);
        due("another road", 1, () -> Checks.truth(x.decide(0, 2, 2)));
        due("was decided", 0, () -> Checks.truth(x.decide(0, 2, 2)));
        due("was decided, no road", NO_SUCH, () -> Checks.truth(x.decide(0, 2, 3)));
        Checks.same("known at 2", 0, x.passage(0, 0, 0, 2));
        Checks.same("known at 3", 2, x.passage(0, 0, 0, 3));
        x.dispute(0);
        due("refused, any road", 1, () -> Checks.truth(x.decide(1, 0, -7)));
        Checks.same("a refusal changes nothing", 2, x.passage(0, 0, 0, 3));
        x.dispute(0);
        due("doesn't count, any road", 1, () -> Checks.truth(x.decide(2, 1, MIN)));
        Checks.same("gone", 0, x.track(0, 0, 3));
    }

    private static void lastDecision() {
        TollTags x = small();
        x.road(4, 5, 0, 2, 0, true);
        x.signal(0, 0, 0);
        for (int i = 0; i < 4; i++) {
            x.dispute(0);
        }
        x.decide(3, 1, 0);
        Checks.same("doesn't count", 0, x.track(0, 0, 0));
        x.decide(0, 2, 1);
        Checks.same("the one decided last counts, not the latest dispute", 1, x.passage(0, 0, 0, 0));
        x.decide(2, 0, 0);
        Checks.same("refused last changes nothing", 1, x.passage(0, 0, 0, 0));
        x.go(1);
        x.decide(1, 1, 0);
        Checks.same("doesn't count again", 0, x.track(0, 0, 1));
        Checks.same("as known ahead of it", 1, x.track(0, 0, 0));
        x.signal(0, 0, 1);
        x.back(1);
        x.dispute(1);
        yes("decided", x.decide(4, 2, 1));
        Checks.same("taken back stays so", 0, x.track(0, 0, 1));
    }

    // Promise 12
    private static void feed() {
        TollTags x = new TollTags();
        x.land();
        Checks.same("feed", 20, x.feed('t' << 24 | 'o' << 16 | 'l' << 8 | 'l', ' ' << 24 | '7' << 16 | ';' << 8 | 'x', 0, 0, -1));
        Checks.same("bytes, the highest first", 0, x.terms(0, 7, 0));
        Checks.same("empty then", 0, x.count(9));
        for (int i = 1; i <= 20; i++) {
            Checks.same("feed", 20 * i, x.feed(0x20202020, 0x20202020, 0x20202020, 0x20202020, 0x20202020));
        }
        Checks.same("too much", NONE, x.feed(0, 0, 0, 0, 0));
        Checks.same("none came", 400, x.count(9));
        due("a whole tape", 0, () -> x.terms(0, 400, 0));
        Checks.same("again", 20, x.feed(0, 0, 0, 0, 0));
        Checks.same("0 is no blank", 1, x.terms(0, 20, 0));
        Checks.feed(x, Checks.bytes("                    toll 1;             "));
        Checks.same("behind the tape", 40, x.count(9));
        due("second twenty", 0, () -> x.terms(0, 27, 0));
        x.feed(0x20202020, 0x20202020, 0x20202020, 0x20202020, 0x202020FF);
        due("byte 255", 1, () -> x.attempt(0, 20, 0));
        Checks.same("its place", 19, x.fault());
    }

    // Promise 13
    private static void terms() {
        TollTags x = new TollTags();
        due("no land", NO_SUCH, () -> x.terms(0, 0, 0));
        x.land();
        x.land();
        due("n -1", ILLEGAL, () -> x.terms(0, -1, 0));
        due("n 1", ILLEGAL, () -> x.terms(0, 1, 0));
        Checks.feed(x, Checks.bytes("toll ("));
        due("n 21", ILLEGAL, () -> x.terms(0, 21, 0));
        due("n 21, no land", NO_SUCH, () -> x.terms(2, 21, 0));
        due("n MAX, no minute", ILLEGAL, () -> x.terms(0, MAX, -1));
        Checks.same("nothing changed", 20, x.count(9));
        due("a fault", 1, () -> x.terms(0, 6, 0));
        Checks.same("its place", 6, x.fault());
        due("n -1 again", ILLEGAL, () -> x.terms(0, -1, 0));
        Checks.same("fault stays when nothing changes", 6, x.fault());
        Checks.same("empty behind a fault", 0, x.count(9));
        due("minute -1", 9, () -> Checks.terms(x, 0, "toll (", -1));
        Checks.same("no fault with 9", NONE, x.fault());
        Checks.same("empty behind 9", 0, x.count(9));
        due("minute 129600", 9, () -> Checks.terms(x, 0, "toll 1;", 129600));
        for (int i = 0; i < 4; i++) {
            due("text " + i, 0, () -> Checks.terms(x, 0, "toll 1;", 129599));
        }
        due("fifth", 9, () -> Checks.terms(x, 0, "toll 1;", 0));
        due("fifth with a fault", 9, () -> Checks.terms(x, 0, "toll", 0));
        due("of another land", 0, () -> Checks.terms(x, 1, "", 0));
        due("land -1", NO_SUCH, () -> x.terms(-1, 0, 0));
    }

    // Promise 14
    private static void places() {
        TollTags x = new TollTags();
        x.land();
        Checks.terms(x, 0, "toll 1; xx", 0);
        Checks.same("place", 8, x.fault());
        Checks.same("place again", 8, x.fault());
        Checks.terms(x, 0, "toll 1;", 0);
        Checks.same("none", NONE, x.fault());
        Checks.attempt(x, 0, " toll x", 0);
        Checks.same("of a try", 6, x.fault());
        Checks.attempt(x, 0, "", 0);
        Checks.same("none of a try", NONE, x.fault());
    }

    private static void values() {
        costs(5, "toll axles;");
        costs(3, "toll fumes;");
        costs(7, "toll km;");
        costs(2, "toll hour;");
        costs(2, "toll weekday;");
        costs(2, "toll sort;");
        costs(0, "toll gone;");
        costs(0, "toll guessed;");
        TollTags x = small();
        x.go(1440 * 8 + 1439);
        x.signal(0, 0, 1440 * 8 + 1439);
        Checks.terms(x, 0, "toll hour*10+weekday;", 0);
        Checks.same("hour 23 of weekday 1", 231, x.passage(0, 0, 2, 12959));
        x.signal(0, 0, 1440 * 7);
        Checks.same("hour 0 of weekday 0", 0, x.passage(0, 0, 2, 12959));
        x.signal(0, 0, 1440 * 7 - 1);
        Checks.same("hour 23 of weekday 6", 236, x.passage(0, 0, 2, 12959));
    }

    private static void faultPlaces() {
        faulty(1, 0, "foo;");
        faulty(1, 0, "tolls 1;");
        faulty(1, 0, ";");
        faulty(1, 0, "5;");
        faulty(1, 0, "Toll 5;");
        faulty(1, 2, " \nA");
        faulty(1, 0, "\ttoll 5;");
        faulty(1, 0, "\u00e9");
        faulty(1, 4, "toll");
        faulty(1, 6, "toll  ");
        faulty(1, 6, "toll 5");
        faulty(1, 8, "toll 5  ");
        faulty(1, 7, "toll 5 axles;");
        faulty(1, 7, "toll 5 5;");
        faulty(1, 6, "toll 5(;");
        faulty(1, 6, "toll 5);");
        faulty(1, 7, "toll (5;");
        faulty(1, 6, "toll ();");
        faulty(1, 5, "toll ;");
        faulty(1, 5, "toll -1;");
        faulty(1, 7, "toll 1+;");
        faulty(1, 8, "toll 1<2<3;");
        faulty(1, 8, "toll 1=2<3;");
        faulty(1, 9, "toll (1<2=3);");
        faulty(1, 7, "toll 1 not 2;");
        faulty(1, 7, "toll 5;;");
        faulty(1, 7, "toll 5;x");
        faulty(1, 6, "toll 5>4;");
        faulty(1, 5, "late axles;");
        faulty(1, 5, "late ;");
        faulty(1, 5, "late (5);");
        faulty(1, 6, "late 5+1;");
        faulty(1, 7, "late 5 5;");
        faulty(1, 4, "late");
        faulty(1, 6, "late 5");
        faulty(1, 7, "double -5;");
        faulty(1, 6, "toll 5free 1;");
        faulty(1, 7, "toll 5;\u00ff");
    }

    private static void faultsOfClauses() {
        faulty(2, 5, "toll 100000;");
        faulty(2, 5, "toll 000001;");
        faulty(2, 7, "toll 1+999999999999999999999;");
        faulty(2, 5, "late 100000;");
        faulty(1, 7, "toll 5 100000;");
        faulty(1, 6, "late 5+100000;");
        String sixteen = "free 0;".repeat(16);
        costs(70, sixteen + " \n");
        faulty(2, 112, sixteen + "toll 5;");
        faulty(2, 113, sixteen + " free");
        faulty(2, 112, sixteen + "late");
        faulty(2, 112, sixteen + "double x");
        faulty(1, 112, sixteen + "x");
        faulty(1, 112, sixteen + "5");
        faulty(1, 112, sixteen + ";");
        faulty(1, 112, sixteen + "axles");
    }

    private static void faultsOfParts() {
        costs(7, "toll (((((km)))));");
        faulty(2, 11, "toll ((((((km))))));");
        faulty(2, 11, "toll ((((((5");
        faulty(2, 11, "toll ((((((x");
        faulty(2, 11, "toll ((((((not 1");
        faulty(2, 11, "toll ((((((toll");
        faulty(2, 11, "toll (((((((");
        faulty(2, 11, "toll ((((((1234567");
        faulty(1, 11, "toll (((((()");
        faulty(1, 11, "toll ((((((;");
        faulty(1, 11, "toll ((((((+");
        faulty(1, 11, "toll ((((((A");
        faulty(1, 11, "toll ((((((");
        faulty(2, 15, "toll (((((1)+((2))))));");
        costs(9, "toll (((((1)))))+((((km+1))));");
        costs(0, "toll not not not not not not 0;");
        costs(1, "toll not not not not not not 9;");
        faulty(2, 29, "toll not not not not not not not 0;");
        faulty(2, 29, "toll not not not not not not not;");
        faulty(3, 29, "toll not not not not not not x;");
        costs(0, "toll not not not not not(not not not 0);");
        costs(1, "toll not not not not not not 1 and not not not not not not 1;");
        faulty(3, 5, "toll and;");
        faulty(3, 5, "toll or 1;");
        faulty(3, 5, "toll toll 1;");
        faulty(3, 5, "toll x;");
        faulty(3, 5, "toll late;");
        faulty(3, 5, "toll z;");
        faulty(3, 5, "toll az;");
        faulty(1, 5, "toll {;");
        faulty(1, 5, "toll `;");
        faulty(1, 5, "toll :;");
        faulty(3, 9, "toll 1 + not 1;");
        faulty(3, 7, "toll 1<not 1;");
        faulty(3, 7, "toll 1*free;");
        faulty(3, 9, "toll not axle;");
        faulty(3, 6, "free (x);");
        faulty(3, 10, "toll 1 or or;");
        faulty(3, 5, "toll axlesfumes;");
        faulty(1, 5, "toll A;");
    }

    private static void reckoning() {
        costs(7, "toll 1+2*3;");
        costs(9, "toll (1+2)*3;");
        costs(5, "toll 10-3-2;");
        costs(2, "toll 100/10/5;");
        costs(20, "toll 100/10*2;");
        costs(0, "toll 5/0;");
        costs(0, "toll 5/(3-3)+(0-4)/0;");
        costs(97, "toll 100+(0-7)/2;");
        costs(103, "toll 100-(0-7)/2;");
        costs(3, "toll 7/2;");
        costs(1, "toll 2<3;");
        costs(0, "toll 3<3;");
        costs(1, "toll 3=3;");
        costs(1, "toll (0-1)<0;");
        costs(1, "toll 1+1<2+1;");
        costs(1, "toll 0-5 and 7;");
        costs(0, "toll 5 and 0;");
        costs(1, "toll 0 or 5;");
        costs(0, "toll 0 or 0;");
        costs(1, "toll 1 or 0 and 0;");
        costs(0, "toll (1 or 0) and 0;");
        costs(1, "toll 1 and 0 or 1;");
        costs(0, "toll 0 and 1 or 0;");
        costs(0, "toll not 1 or 0;");
        costs(1, "toll not 2=3;");
        costs(0, "toll not 0=0;");
        costs(1, "toll not 0 and 1;");
        costs(0, "toll not 5;");
        costs(1, "toll not not 5;");
        costs(6, "toll (1<2)+5;");
        costs(1, "toll (1<2)<2;");
        costs(1, "toll (1<2)=(3<4);");
        // 99999 * 99999 wraps to 1409865409, and that by 99999 to 14098.
        costs(14098, "toll 99999*99999/99999;");
        // 46341 * 46341 wraps below 0.
        costs(0, "toll 46341*46341;");
        costs(1, "toll 46341*46341<0;");
        // The least int by -1 stays the least.
        costs(1, "toll 32768*32768*2/(0-1)<0;");
        costs(1, "toll 32768*32768*2-1=32768*32768*2-1 and 0<32768*32768*2-1;");
    }

    private static void tolls() {
        costs(70, "");
        costs(70, " \n ");
        costs(70, "free 0;late 99999;");
        costs(0, "free 1;");
        costs(0, "toll 5;free 0-1;");
        costs(0, "free 0;toll 5;free 1;free 0;");
        costs(5, "free 0;free 0;toll 5;");
        costs(6, "toll 5;toll 6;");
        costs(5, "toll 6 ;toll 5 ;");
        costs(99999, "toll 99999;");
        costs(99999, "toll 99999+1;");
        costs(0, "toll 0-1;");
        costs(0, "toll 0;");
        costs(12, "toll\n12\n;\n");
        costs(12, "toll12;");
        costs(10, "toll km+sort+1;free axles<5;");
        costs(0, "toll 8;free axles=5 and not fumes=4;");
    }

    private static void chosenTerms() {
        TollTags x = passed();
        Checks.terms(x, 0, "toll 1;", 3001);
        Checks.same("not begun", 70, x.passage(0, 0, 2, 4000));
        Checks.terms(x, 0, "toll 2;", 2000);
        Checks.same("begun", 2, x.passage(0, 0, 2, 4000));
        x.go(1);
        Checks.terms(x, 0, "toll 3;", 1000);
        Checks.same("begun ahead of another, told behind it", 2, x.passage(0, 0, 2, 4001));
        x.go(1);
        Checks.terms(x, 0, "", 2000);
        Checks.same("of like ones the one told last", 70, x.passage(0, 0, 2, 4002));
        Checks.same("as known ahead", 2, x.passage(0, 0, 2, 4001));
        TollTags y = passed();
        y.go(1);
        Checks.terms(y, 0, "toll 4;", 3000);
        Checks.same("begins just then", 4, y.passage(0, 0, 2, 4001));
        Checks.same("not known", 70, y.passage(0, 0, 2, 4000));
        y.land();
        Checks.terms(y, 1, "toll 5;", 3000);
        Checks.same("of another land", 4, y.passage(0, 0, 2, 4001));
    }

    // Promise 15
    private static void black() {
        TollTags x = passed();
        due("no box", NO_SUCH, () -> x.black(1, true, 0));
        due("box -1", NO_SUCH, () -> x.black(-1, true, 0));
        Checks.same("off", 0, x.passage(0, 0, 6, 4000));
        due("later", 1, () -> x.black(0, true, 3001));
        Checks.same("not from 3001 on", 0, x.passage(0, 0, 6, 4000));
        x.go(1);
        due("just then", 2, () -> x.black(0, true, 3000));
        Checks.same("on", 1, x.passage(0, 0, 6, 4001));
        Checks.same("as known ahead", 0, x.passage(0, 0, 6, 4000));
        due("off, told last, from long ago", 3, () -> x.black(0, false, MIN));
        Checks.same("told last counts", 0, x.passage(0, 0, 6, 4001));
        due("on, never", 4, () -> x.black(0, true, MAX));
        Checks.same("never", 0, x.passage(0, 0, 6, 4001));
        x.box(0, 0);
        for (int i = 5; i <= 60; i++) {
            Checks.same("told", i, x.black(1, true, -5));
        }
        Checks.same("61st", NONE, x.black(1, false, 0));
        due("61st of no box", NO_SUCH, () -> x.black(2, false, 0));
        Checks.same("of another box", 0, x.passage(0, 0, 6, 4001));
        x.signal(1, 0, 0);
        Checks.same("the 60th holds", 1, x.passage(1, 0, 6, 4001));
    }

    // Promise 16
    private static void rates() {
        TollTags x = passed();
        due("no land", NO_SUCH, () -> Checks.truth(x.rate(1, 0, 1)));
        due("land -1 ahead of a bad month", NO_SUCH, () -> Checks.truth(x.rate(-1, 9, 1)));
        no("month -1", x.rate(0, -1, 5));
        no("month 3", x.rate(0, 3, 5));
        no("parts 0", x.rate(0, 0, 0));
        no("parts 100000", x.rate(0, 0, 100000));
        Checks.same("1000 without", 70, x.due(0, 0, 0, 4000));
        x.go(1);
        yes("parts 1", x.rate(0, 0, 1));
        Checks.same("cut down", 0, x.due(0, 0, 0, 4001));
        yes("parts 99999", x.rate(0, 0, 99999));
        Checks.same("told last", 6999, x.due(0, 0, 0, 4001));
        Checks.same("as known ahead", 70, x.due(0, 0, 0, 4000));
        yes("of another month", x.rate(0, 1, 5));
        Checks.same("still", 6999, x.due(0, 0, 0, 4001));
        for (int i = 3; i < 60; i++) {
            yes("told", x.rate(0, 2, 7));
        }
        no("61st", x.rate(0, 0, 7));
        due("61st of no land", NO_SUCH, () -> Checks.truth(x.rate(7, 0, 7)));
        Checks.same("as told", 6999, x.due(0, 0, 0, 4001));
    }

    /** small() with ROADS 1 (1 to 2, 3 km), 2 (2 to 3, 4 km) without a GANTRY, 3 (3 to 4, 5 km) with one. */
    private static TollTags line() {
        TollTags x = small();
        x.road(1, 2, 0, 3, 1, false);
        x.road(2, 3, 0, 4, 1, false);
        x.road(3, 4, 0, 5, 3, true);
        x.go(1000);
        return x;
    }

    // Promise 17
    private static void tracks() {
        TollTags x = line();
        x.signal(0, 0, 100);
        x.signal(0, 3, 280);
        long[] want = {4, 0, 190, 19, 0, 2};
        for (int i = 0; i < 6; i++) {
            int what = i;
            due("track " + what, want[what], () -> x.track(0, what, 1000));
        }
        due("what 6", NO_SUCH, () -> x.track(0, 6, 1000));
        due("what -1 ahead of a bad minute", NO_SUCH, () -> x.track(0, -1, 1001));
        due("no box", NO_SUCH, () -> x.track(1, 0, -1));
        due("box -1", NO_SUCH, () -> x.track(-1, 0, 0));
        due("k 1001", ILLEGAL, () -> x.track(0, 0, 1001));
        due("k -1", ILLEGAL, () -> x.track(0, 0, -1));
        due("k 999", 0, () -> x.track(0, 0, 999));
        x.signal(0, 0, 461);
        Checks.same("181 apart: neither guessed nor broken", 0, x.track(0, 1, 1000));
        Checks.same("one more", 5, x.track(0, 0, 1000));
        x.signal(0, 3, 460);
        Checks.same("no way twice", 2, x.track(0, 1, 1000));
        Checks.same("no more guessed", 2, x.track(0, 5, 1000));
        x.road(4, 0, 0, 9, 0, true);
        Checks.same("a gantry's road is no way", 2, x.track(0, 1, 1000));
        x.road(4, 0, 0, 9, 0, false);
        Checks.same("a way for one", 1, x.track(0, 1, 1000));
        x.road(4, 3, 0, 9, 0, false);
        Checks.same("a way for both", 0, x.track(0, 1, 1000));
        Checks.same("guessed", 4, x.track(0, 5, 1000));
        TollTags y = small();
        y.road(1, 0, 0, 1, 0, true);
        y.signal(0, 0, 0);
        y.signal(0, 1, 0);
        y.signal(0, 0, 0);
        Checks.same("one node: none", 3, y.track(0, 0, 0));
        Checks.same("one node: not broken", 0, y.track(0, 1, 0));
    }

    private static void leastWays() {
        TollTags x = small();
        x.road(9, 10, 0, 1, 0, true);
        x.road(1, 9, 0, 20, 0, false);
        x.road(1, 5, 0, 4, 0, false);
        x.road(5, 6, 0, 6, 0, false);
        x.road(6, 9, 0, 10, 0, false);
        x.go(10);
        x.signal(0, 0, 1);
        x.signal(0, 1, 2);
        Checks.same("of like km fewest roads", 2, x.passage(0, 1, 0, 10));
        Checks.same("one guessed", 1, x.track(0, 5, 10));
        x.road(5, 9, 0, 15, 0, false);
        Checks.same("fewest km", 3, x.passage(0, 1, 0, 10));
        Checks.same("then", 6, x.passage(0, 2, 0, 10));
        x.road(1, 7, 0, 15, 0, false);
        x.road(7, 9, 0, 4, 0, false);
        Checks.same("of like ones the first row", 3, x.passage(0, 1, 0, 10));
        x.road(5, 9, 0, 15, 0, false);
        Checks.same("like roads side by side", 6, x.passage(0, 2, 0, 10));
        x.road(7, 9, 0, 3, 0, false);
        Checks.same("again fewest km", 7, x.passage(0, 1, 0, 10));
        Checks.same("its second", 10, x.passage(0, 2, 0, 10));
        // The first as a row, though its second ROAD has a greater number than the other's.
        TollTags y = small();
        y.road(9, 10, 0, 1, 0, true);
        y.road(6, 9, 0, 1, 0, false);
        y.road(1, 5, 0, 1, 0, false);
        y.road(1, 6, 0, 1, 0, false);
        y.road(5, 9, 0, 1, 0, false);
        y.signal(0, 0, 0);
        y.signal(0, 1, 0);
        Checks.same("row 3 5 is ahead of 4 2", 3, y.passage(0, 1, 0, 0));
        Checks.same("its second", 5, y.passage(0, 2, 0, 0));
        // The longest way there can be: 23 ROADS of 999 km.
        TollTags z = new TollTags();
        z.land();
        z.provider(0);
        z.lorry(2, 0);
        z.box(0, 0);
        z.road(23, 0, 0, 1, 0, true);
        for (int node = 0; node < 23; node++) {
            z.road(node, node + 1, 0, 999, 0, false);
        }
        z.signal(0, 0, 0);
        z.signal(0, 0, 0);
        Checks.same("the longest way", 25, z.track(0, 0, 0));
        Checks.same("its km", 2 + 23 * 999, z.track(0, 3, 0));
    }

    /** 300 SIGNALS and 23 GUESSED ROADS between each two: no TRACK is longer. */
    private static void longestTrack() {
        TollTags x = new TollTags();
        for (int i = 0; i < 9; i++) {
            x.land();
        }
        x.provider(1000);
        x.lorry(2, 0);
        x.box(0, 0);
        x.road(23, 0, 8, 2, 0, true);
        for (int node = 0; node < 23; node++) {
            x.road(node, node + 1, 8, 1, 0, false);
        }
        x.go(86400);
        for (int i = 0; i < 300; i++) {
            x.signal(0, 0, 86400);
        }
        int all = 300 + 299 * 23;
        Checks.same("passages", all, x.track(0, 0, 86400));
        Checks.same("guessed", 299 * 23, x.track(0, 5, 86400));
        due("the last one's road", 0, () -> x.passage(0, all - 1, 0, 86400));
        due("the one ahead of it", 23, () -> x.passage(0, all - 2, 0, 86400));
        due("gone for the last one", 299 * 25, () -> x.passage(0, all - 1, 5, 86400));
        due("none behind", NO_SUCH, () -> x.passage(0, all, 0, 86400));
        Checks.same("due", 10 * (299 * 25 + 2), x.due(0, 8, 2, 86400));
        Checks.same("falls", 1000, x.falls(0, 8, 86400));
        due("tried", 0, () -> Checks.attempt(x, 8, "toll 99999;", 86400));
        Checks.same("more", all * 99999 - 10 * (299 * 25 + 2), x.more());
        x.black(0, true, 86400);
        Checks.same("unpaid", 10 * (299 * 25 + 2), x.unpaid(8, 2, 86400));
    }

    private static void late() {
        TollTags x = small();
        x.go(20000);
        x.signal(0, 0, 20000 - 10080);
        Checks.same("10080 behind", 1, x.track(0, 0, 20000));
        x.signal(0, 0, 20000 - 10081);
        Checks.same("10081 behind", 1, x.track(0, 0, 20000));
        x.go(1);
        Checks.terms(x, 0, "late 10081;late 5;late 10081;", 0);
        Checks.same("the last 'late'", 2, x.track(0, 0, 20001));
        Checks.same("as known ahead", 1, x.track(0, 0, 20000));
        Checks.terms(x, 0, "late 0;", 15000);
        x.signal(0, 0, 20001);
        Checks.same("0 behind", 3, x.track(0, 0, 20001));
        x.signal(0, 0, 20000);
        Checks.same("1 behind", 3, x.track(0, 0, 20001));
        // By the TERMS of the LAND of the ROAD as DECIDED.
        x.land();
        x.road(5, 6, 1, 1, 0, true);
        x.dispute(3);
        x.decide(0, 2, 1);
        Checks.same("on a road of a land without terms", 4, x.track(0, 0, 20001));
    }

    private static void doubles() {
        TollTags x = line();
        x.box(0, 0);
        x.lorry(2, 0);
        x.box(1, 0);
        x.signal(0, 0, 100);
        x.signal(1, 0, 130);
        Checks.same("30 behind", 1, x.passage(1, 0, 4, 1000));
        Checks.same("the earlier is not", 0, x.passage(0, 0, 4, 1000));
        Checks.same("costs nothing", 0, x.passage(1, 0, 2, 1000));
        Checks.same("one double", 1, x.track(1, 4, 1000));
        x.signal(1, 0, 131);
        Checks.same("31 behind", 0, x.passage(1, 1, 4, 1000));
        x.signal(2, 0, 130);
        Checks.same("of another lorry", 0, x.track(2, 4, 1000));
        x.signal(1, 3, 100);
        Checks.same("on another road", 0, x.passage(1, 0, 4, 1000));
        x.signal(1, 0, 100);
        Checks.same("of like minute, the greater number", 1, x.passage(1, 1, 4, 1000));
        Checks.same("of like minute, the lesser number", 0, x.passage(0, 0, 4, 1000));
        Checks.same("its signal", 5, x.passage(1, 1, 3, 1000));
        x.go(1);
        Checks.terms(x, 0, "double 0;", 120);
        Checks.same("terms for this one's minute", 1, x.track(1, 4, 1001));
        Checks.same("still double at 100", 1, x.passage(1, 1, 4, 1001));
        x.back(0);
        Checks.same("the earlier taken back", 0, x.track(1, 4, 1001));
        Checks.same("as known ahead", 2, x.track(1, 4, 1000));
        // A DOUBLE one makes others DOUBLE too: 60, 80 and 100 of three BOXES.
        TollTags y = small();
        y.box(0, 0);
        y.box(0, 0);
        y.go(200);
        y.signal(0, 0, 60);
        y.signal(1, 0, 80);
        y.signal(2, 0, 100);
        Checks.same("by a double one", 1, y.track(2, 4, 200));
        y.signal(0, 0, 70);
        Checks.same("never by its own box", 0, y.track(0, 4, 200));
        y.dispute(0);
        y.dispute(3);
        y.decide(0, 1, 0);
        y.decide(1, 1, 0);
        Checks.same("one that doesn't count", 0, y.track(1, 4, 200));
    }

    private static void gone() {
        TollTags x = line();
        x.box(0, 0);
        x.land();
        x.road(4, 0, 1, 11, 0, false);
        x.signal(0, 0, 100);
        x.signal(0, 3, 200);
        x.signal(0, 0, 300);
        int[] want = {0, 7, 10, 14, 0, 19};
        for (int i = 0; i < want.length; i++) {
            int place = i;
            due("gone of " + i, want[i], () -> x.passage(0, place, 5, 1000));
        }
        x.signal(1, 0, 90);
        Checks.same("the first is double", 1, x.passage(0, 0, 4, 1000));
        Checks.same("and doesn't add", 0, x.passage(0, 1, 5, 1000));
        Checks.same("nor later", 12, x.passage(0, 5, 5, 1000));
        x.go(43199 - 1000);
        x.signal(0, 0, 43190);
        x.go(20);
        x.signal(0, 3, 43200);
        Checks.same("month 0", 19, x.passage(0, 6, 5, 43219));
        Checks.same("guessed from month 0", 26, x.passage(0, 7, 5, 43219));
        Checks.same("its minute", 43190, x.passage(0, 8, 1, 43219));
        Checks.same("month 1", 0, x.passage(0, 9, 5, 43219));
        Checks.terms(x, 0, "toll gone*10+guessed;", 0);
        Checks.same("charged by it", 190, x.passage(0, 6, 2, 43219));
        Checks.same("guessed charged by it", 261, x.passage(0, 7, 2, 43219));
    }

    // Promise 18
    private static void passages() {
        TollTags x = line();
        x.signal(0, 3, 280);
        x.signal(0, 0, 100);
        int[][] want = {{0, 100, 70, 1, 0, 0, 0}, {1, 100, 30, NONE, 0, 7, 0}, {2, 100, 40, NONE, 0, 10, 0},
            {3, 280, 50, 0, 0, 14, 1}};
        x.black(0, true, 101);
        for (int i = 0; i < 4; i++) {
            for (int what = 0; what < 7; what++) {
                int place = i, asked = what;
                due("passage " + i + " " + what, want[i][what], () -> x.passage(0, place, asked, 1000));
            }
        }
        due("passage 4", NO_SUCH, () -> x.passage(0, 4, 0, 1000));
        due("passage -1", NO_SUCH, () -> x.passage(0, -1, 0, 1000));
        due("passage MAX", NO_SUCH, () -> x.passage(0, MAX, 0, 1000));
        due("passage MIN", NO_SUCH, () -> x.passage(0, MIN, 0, 1000));
        due("what 7", NO_SUCH, () -> x.passage(0, 0, 7, 1000));
        due("what -1 ahead of a bad minute", NO_SUCH, () -> x.passage(0, 0, -1, 1001));
        due("no box", NO_SUCH, () -> x.passage(1, 0, 0, 1000));
        due("k 1001", ILLEGAL, () -> x.passage(0, 0, 0, 1001));
        due("k -1", ILLEGAL, () -> x.passage(0, 0, 0, -1));
        due("k 999", NO_SUCH, () -> x.passage(0, 0, 0, 999));
        x.signal(0, 0, 100);
        Checks.same("of like minute by number", 1, x.passage(0, 0, 3, 1000));
        Checks.same("then", 2, x.passage(0, 1, 3, 1000));
    }

    // Promise 19
    private static void due() {
        TollTags x = line();
        x.provider(50);
        x.box(0, 1);
        x.land();
        x.signal(0, 0, 100);
        x.signal(1, 3, 300);
        Checks.same("of provider 0", 70, x.due(0, 0, 0, 1000));
        Checks.same("of provider 1", 50, x.due(1, 0, 0, 1000));
        Checks.same("another land", 0, x.due(0, 1, 0, 1000));
        Checks.same("another month", 0, x.due(0, 0, 1, 1000));
        x.black(0, true, 50);
        Checks.same("unpaid is not owed", 0, x.due(0, 0, 0, 1000));
        x.rate(0, 0, 333);
        Checks.same("cut down", 16, x.due(1, 0, 0, 1000));
        due("no provider", NO_SUCH, () -> x.due(2, 0, 0, 1000));
        due("no land", NO_SUCH, () -> x.due(0, 2, 0, 1000));
        due("month 3 ahead of a bad minute", NO_SUCH, () -> x.due(0, 0, 3, 1001));
        due("month -1", NO_SUCH, () -> x.due(0, 0, -1, 1000));
        due("k 1001", ILLEGAL, () -> x.due(0, 0, 0, 1001));
        due("k -1", ILLEGAL, () -> x.due(0, 0, 0, -1));
        due("k 999", 0, () -> x.due(1, 0, 0, 999));
        // More than an int: 25 SIGNALS at 99999 and a RATE of 99999 parts.
        TollTags y = small();
        Checks.terms(y, 0, "toll 99999;", 0);
        y.rate(0, 0, 99999);
        for (int i = 0; i < 25; i++) {
            y.signal(0, 0, 0);
        }
        Checks.same("a long", 249995000L, y.due(0, 0, 0, 0));
        for (int i = 25; i < 300; i++) {
            y.signal(0, 0, 0);
        }
        Checks.same("beyond an int", 300L * 99999 * 99999 / 1000, y.due(0, 0, 0, 0));
    }

    // Promise 20
    private static void unpaid() {
        TollTags x = line();
        x.box(0, 0);
        x.land();
        x.rate(0, 0, 500);
        x.signal(0, 0, 100);
        x.signal(0, 3, 200);
        x.signal(1, 0, 150);
        Checks.same("none", 0, x.unpaid(0, 0, 1000));
        x.go(1);
        x.black(0, true, 200);
        Checks.same("one", 50, x.unpaid(0, 0, 1001));
        x.black(0, true, 100);
        Checks.same("its whole track, guessed ones too", 190, x.unpaid(0, 0, 1001));
        x.black(1, true, 150);
        Checks.same("of all boxes, no rate", 260, x.unpaid(0, 0, 1001));
        Checks.same("as known ahead", 0, x.unpaid(0, 0, 1000));
        Checks.same("another land", 0, x.unpaid(1, 0, 1001));
        Checks.same("another month", 0, x.unpaid(0, 2, 1001));
        due("no land", NO_SUCH, () -> x.unpaid(2, 0, 1001));
        due("month 3", NO_SUCH, () -> x.unpaid(0, 3, 1002));
        due("month -1", NO_SUCH, () -> x.unpaid(0, -1, 1001));
        due("k 1002", ILLEGAL, () -> x.unpaid(0, 0, 1002));
        due("k -1", ILLEGAL, () -> x.unpaid(0, 0, -1));
    }

    /** LANDS whose ROADS were passed for these sums, a PROVIDER with a deposit. */
    private static TollTags owing(int deposit, int... km) {
        TollTags x = new TollTags();
        x.provider(deposit);
        x.lorry(2, 0);
        x.box(0, 0);
        for (int i = 0; i < km.length; i++) {
            x.land();
            if (km[i] > 0) {
                int road = x.road(0, 1, i, km[i], 0, true);
                x.signal(0, road, 0);
            }
        }
        return x;
    }

    private static void gets(TollTags x, long... want) {
        for (int i = 0; i < want.length; i++) {
            int land = i;
            due("land " + i + " gets", want[i], () -> x.falls(0, land, 0));
        }
    }

    // Promise 21
    private static void falls() {
        gets(owing(60, 1, 2, 3), 10, 20, 30);
        gets(owing(1000, 1, 2, 3), 10, 20, 30);
        // 59 of 60: 9 5/6, 19 4/6, 29 3/6: two more, to LANDS 0 and 1.
        gets(owing(59, 1, 2, 3), 10, 20, 29);
        // 1 of 60: 1/6, 2/6, 3/6: LAND 2.
        gets(owing(1, 1, 2, 3), 0, 0, 1);
        gets(owing(0, 1, 2, 3), 0, 0, 0);
        // 2 of 40: 1/2 each: the lesser LANDS.
        gets(owing(2, 1, 1, 1, 1), 1, 1, 0, 0);
        gets(owing(2, 0, 1, 0, 1, 1, 1, 0), 0, 1, 0, 1, 0, 0, 0);
        gets(owing(5, 0, 0), 0, 0);
        TollTags x = owing(30, 1, 2);
        x.rate(0, 0, 2000);
        // 20 and 20.
        gets(x, 15, 15);
        x.black(0, true, 0);
        gets(x, 0, 0);
        due("no provider", NO_SUCH, () -> x.falls(1, 0, 0));
        due("no land ahead of a bad minute", NO_SUCH, () -> x.falls(0, 2, 1));
        due("k 1", ILLEGAL, () -> x.falls(0, 0, 1));
        due("k -1", ILLEGAL, () -> x.falls(0, 0, -1));
        // All MONTHS together: 70 in MONTH 0, 35 in MONTH 1, each cut down by itself.
        TollTags y = small();
        y.signal(0, 0, 0);
        y.go(43200);
        y.signal(0, 0, 43200);
        y.rate(0, 1, 505);
        Checks.same("all months", 105, y.falls(0, 0, 43200));
        Checks.same("as known ahead", 70, y.falls(0, 0, 0));
        // A great sum: 300 at 99999, 99999 parts, a deposit of a million.
        TollTags z = new TollTags();
        z.land();
        z.land();
        z.provider(1000000);
        z.lorry(2, 0);
        z.box(0, 0);
        z.road(0, 1, 0, 1, 0, true);
        z.road(0, 1, 1, 1, 0, true);
        for (int land = 0; land < 2; land++) {
            Checks.terms(z, land, "toll 99999;", 0);
            z.rate(land, 0, 99999);
        }
        for (int i = 0; i < 300; i++) {
            z.signal(0, i % 3 == 0 ? 0 : 1, 0);
        }
        gets(z, 333333, 666667);
    }

    // Promise 22
    private static void ways() {
        TollTags x = new TollTags();
        x.land();
        x.road(0, 1, 0, 1, 0, true);
        x.road(0, 1, 0, 1, 0, false);
        due("many 0", NONE, () -> x.way(0, 0, 1));
        due("many 7", NONE, () -> x.way(7, 0, 1));
        due("many -1", NONE, () -> x.way(-1, 0, 1));
        due("lorries 0", NONE, () -> x.way(1, 0, 0));
        due("lorries 1000", NONE, () -> x.way(1, 0, 1000));
        due("NONE ahead of no road", NONE, () -> x.way(1, 2, 0));
        due("no road", NO_SUCH, () -> x.way(1, 2, 1));
        due("no second road", NO_SUCH, () -> x.way(2, 2 << 6, 1));
        due("no sixth road", NO_SUCH, () -> x.way(6, 63L << 30, 1));
        Checks.same("none came", 0, x.count(8));
        due("some twice", 0, () -> x.way(2, 1 | 1 << 6, 1));
        due("six", 1, () -> x.way(6, 1L << 30, 999));
        due("bits behind", 2, () -> x.way(1, -64L, 1));
        for (int i = 3; i < 20; i++) {
            int number = i;
            due("way", number, () -> x.way(1, 0, 1));
        }
        due("21st", NONE, () -> x.way(1, 0, 1));
        due("21st of no road", NONE, () -> x.way(1, 5, 1));
        Checks.same("ways", 20, x.count(8));
        Checks.same("road 0", 999 + 18, x.sees(1));
        Checks.same("road 1", 1000, x.sees(2));
    }

    private static TollTags netOf(int roads) {
        TollTags x = new TollTags();
        x.land();
        for (int i = 0; i < roads; i++) {
            x.road(0, 1, 0, 1, 0, false);
        }
        return x;
    }

    // Promise 23
    private static void cameras() {
        TollTags x = netOf(14);
        due("m -1", ILLEGAL, () -> x.cameras(-1));
        due("m 13", ILLEGAL, () -> x.cameras(13));
        due("no ways", 0, () -> x.cameras(12));
        x.way(1, 12, 999);
        due("road 12 has none", 0, () -> x.cameras(12));
        x.way(2, 3 | 5 << 6, 10);
        due("of like ones the lesser road", 1 << 3, () -> x.cameras(1));
        due("fewest", 1 << 3, () -> x.cameras(12));
        x.way(2, 5 | 11 << 6, 10);
        due("in both", 1 << 5, () -> x.cameras(2));
        x.way(1, 11, 10);
        due("one: road 5 ahead of 11", 1 << 5, () -> x.cameras(1));
        // 30 with 3 and 11, or 5 and 11.
        due("two: road 3 rather", 1 << 3 | 1 << 11, () -> x.cameras(2));
        due("m 0", 0, () -> x.cameras(0));
        x.way(1, 0, 1);
        due("three", 1 | 1 << 3 | 1 << 11, () -> x.cameras(3));
        due("still two", 1 << 3 | 1 << 11, () -> x.cameras(2));
        // The best two are not the best one and another.
        TollTags y = netOf(3);
        y.way(2, 0 | 1 << 6, 5);
        y.way(2, 1 | 2 << 6, 5);
        y.way(1, 0, 4);
        y.way(1, 2, 4);
        due("middle", 1 << 1, () -> y.cameras(1));
        due("both ends", 1 | 1 << 2, () -> y.cameras(2));
        due("no third", 1 | 1 << 2, () -> y.cameras(3));
    }

    // Promise 24
    private static void sees() {
        TollTags x = netOf(14);
        x.way(2, 0 | 11 << 6, 10);
        x.way(1, 1, 5);
        x.way(2, 12 | 13 << 6, 100);
        Checks.same("none", 0, x.sees(0));
        Checks.same("road 0", 10, x.sees(1));
        Checks.same("once for two roads", 10, x.sees(1 | 1 << 11));
        Checks.same("roads 0 and 1", 15, x.sees(3));
        Checks.same("roads 12, 13", 0, x.sees(1 << 12 | 1 << 13));
        Checks.same("all bits", 15, x.sees(-1));
        Checks.same("the highest bit", 0, x.sees(MIN));
    }

    // Promises 25 and 26
    private static void attempts() {
        TollTags x = passed();
        due("no land", NO_SUCH, () -> x.attempt(1, 0, 0));
        due("n 1", ILLEGAL, () -> x.attempt(0, 1, 0));
        due("n -1", ILLEGAL, () -> x.attempt(0, -1, -1));
        due("no land, n 1", NO_SUCH, () -> x.attempt(-1, 1, 0));
        Checks.same("none tried", 0, x.more());
        due("tried", 0, () -> Checks.attempt(x, 0, "toll 100;", 0));
        Checks.same("more", 30, x.more());
        Checks.same("empty", 0, x.count(9));
        Checks.same("nothing told", 70, x.passage(0, 0, 2, 4000));
        due("a fault", 3, () -> Checks.attempt(x, 0, "toll x;", 0));
        Checks.same("more stays", 30, x.more());
        due("minute -1", 9, () -> Checks.attempt(x, 0, "toll x;", -1));
        due("minute 129600", 9, () -> Checks.attempt(x, 0, "toll 1;", 129600));
        Checks.same("no fault", NONE, x.fault());
        Checks.same("more stays", 30, x.more());
        due("begins later", 0, () -> Checks.attempt(x, 0, "toll 1;", 3001));
        Checks.same("no more", 0, x.more());
        for (int i = 0; i < 4; i++) {
            Checks.terms(x, 0, "toll 5;", 1000 * i);
        }
        due("a fifth is tried", 0, () -> Checks.attempt(x, 0, "toll 3;", 3000));
        Checks.same("as if told last of all", -2, x.more());
        due("one that begins ahead", 0, () -> Checks.attempt(x, 0, "toll 3;", 2999));
        Checks.same("doesn't count", 0, x.more());
        x.black(0, true, 0);
        due("unpaid ones too", 0, () -> Checks.attempt(x, 0, "free 1;", 3000));
        Checks.same("less", -5, x.more());
        x.signal(0, 0, 3500);
        Checks.same("more is that of the try", -5, x.more());
        // 'late' and 'double' count too, and ways that are lost; other LANDS don't.
        TollTags y = line();
        y.box(0, 0);
        y.land();
        y.road(9, 8, 1, 50, 0, true);
        y.signal(0, 0, 100);
        y.signal(0, 3, 280);
        y.signal(1, 0, 110);
        y.signal(1, 4, 120);
        due("double", 0, () -> Checks.attempt(y, 0, "double 9;", 0));
        Checks.same("its charge", 70, y.more());
        due("late", 0, () -> Checks.attempt(y, 0, "late 890;", 0));
        Checks.same("one lost, with the guessed; one no longer double", 50 + 70 - 190, y.more());
        due("another land", 0, () -> Checks.attempt(y, 1, "toll 1;", 0));
        Checks.same("its own", -499, y.more());
    }

    // Promise 27
    private static void counts() {
        TollTags x = line();
        x.signal(0, 0, 1);
        x.dispute(0);
        x.way(1, 0, 1);
        x.feed(0, 0, 0, 0, 0);
        int[] want = {1000, 1, 4, 1, 1, 1, 1, 1, 1, 20};
        for (int what = 0; what < 10; what++) {
            int asked = what;
            due("count " + what, want[what], () -> x.count(asked));
        }
        due("count 10", NO_SUCH, () -> x.count(10));
        due("count -1", NO_SUCH, () -> x.count(-1));
        due("count MAX", NO_SUCH, () -> x.count(MAX));
    }

    private static void endOfTime() {
        TollTags x = small();
        x.go(129599);
        x.signal(0, 0, 129599);
        Checks.same("the last month", 70, x.due(0, 0, 2, 129599));
        x.rate(0, 2, 2000);
        Checks.same("its rate", 140, x.due(0, 0, 2, 129599));
        Checks.same("not the month ahead", 0, x.due(0, 0, 1, 129599));
        due("no month 3", NO_SUCH, () -> x.due(0, 0, 3, 129599));
        x.signal(0, 0, 119519);
        Checks.same("10080 behind", 2, x.track(0, 0, 129599));
    }
}
