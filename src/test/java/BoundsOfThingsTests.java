/**
 * How many there may be of each thing, from what to what a number may be, and that a refused call changes nothing: for
 * each sentence the last that is taken and the first that is not.
 */
public final class BoundsOfThingsTests {
    private static final int NONE = TollTags.NONE;
    private static final int NO_SUCH = Checks.NO_SUCH;
    private static final int ILLEGAL = Checks.ILLEGAL;
    private static final int MIN = Integer.MIN_VALUE;
    private static final int MAX = Integer.MAX_VALUE;

    private BoundsOfThingsTests() {
    }

    public static void main(String[] args) {
        newObject();
        manyOfEach();
        fullAtTheLastCall();
        numbersOfRoads();
        numbersOfProvidersAndLorries();
        minutes();
        numbersOfSignals();
        thingsThereAre();
        thingsOfDecisions();
        thingsOfSums();
        knownMinutes();
        whats();
        refusedThings();
        refusedSignals();
        refusedTexts();
        refusedSums();
        exceptionsFirst();
        questionsChangeNothing();
        Checks.end();
    }

    /** A call with a number, on an object of its own. */
    private interface Asking {
        long answer(TollTags x, int number);
    }

    private interface Making {
        TollTags make();
    }

    /** The least and the greatest number are taken, those beside them and the ends of int are answered otherwise. */
    private static void range(String sentence, int least, int greatest, long other, Making made, Asking call) {
        for (int good : new int[] {least, Math.min(least + 1, greatest), Math.max(greatest - 1, least), greatest}) {
            long got = Checks.outcome(() -> call.answer(made.make(), good));
            Checks.same(sentence + ", taken: " + good, 1, Checks.truth(got >= 0 && got != other));
        }
        for (int bad : new int[] {least - 1, greatest + 1, MIN, MAX}) {
            Checks.due(sentence + ", refused: " + bad, other, () -> call.answer(made.make(), bad));
        }
    }

    /** So many are numbered from 0 on, and then there is NONE, again and again. */
    private static void most(String sentence, int many, int what, Making made, Asking call) {
        TollTags x = made.make();
        for (int i = 0; i < many; i++) {
            int number = i;
            Checks.due(sentence, number, () -> call.answer(x, number));
        }
        Checks.same(sentence + ", count", many, x.count(what));
        Checks.due(sentence + ", one more", NONE, () -> call.answer(x, many));
        Checks.due(sentence + ", one more again", NONE, () -> call.answer(x, many));
        Checks.same(sentence + ", count as it was", many, x.count(what));
    }

    private static void refused(String sentence, long answer, Asking call) {
        TollTags x = Worlds.rich();
        String ahead = Worlds.all(x);
        Checks.due(sentence, answer, () -> call.answer(x, 0));
        Checks.same(sentence + " changes nothing", 1, Checks.truth(ahead.equals(Worlds.all(x))));
    }

    // "No LANDS, ROADS, PROVIDERS; NOW 0." "NONE = -1: There is none."
    private static void newObject() {
        Checks.edge("no LANDS at first", 0, () -> new TollTags().count(1), 1, () -> Worlds.small().count(1));
        Checks.edge("no ROADS at first", 0, () -> new TollTags().count(2), 1, () -> Worlds.small().count(2));
        Checks.edge("no PROVIDERS at first", 0, () -> new TollTags().count(3), 1, () -> Worlds.small().count(3));
        Checks.edge("no LORRIES at first", 0, () -> new TollTags().count(4), 1, () -> Worlds.small().count(4));
        Checks.edge("no BOXES at first", 0, () -> new TollTags().count(5), 1, () -> Worlds.small().count(5));
        Checks.edge("no SIGNALS at first", 0, () -> new TollTags().count(6), 7, () -> Worlds.rich().count(6));
        Checks.edge("no DISPUTES at first", 0, () -> new TollTags().count(7), 3, () -> Worlds.rich().count(7));
        Checks.edge("no WAYS at first", 0, () -> new TollTags().count(8), 2, () -> Worlds.rich().count(8));
        Checks.edge("no bytes at first", 0, () -> new TollTags().count(9), 20, () -> Worlds.rich().count(9));
        Checks.edge("NOW 0", 0, () -> new TollTags().count(0), 1, () -> Worlds.smallAt(1).count(0));
        Checks.edge("no FAULT at first", NONE, () -> new TollTags().fault(), 5, () -> Worlds.rich().fault());
        // The TRY of rich(): 6 PASSAGES in LAND 0 for 310, each for 1.
        Checks.edge("no more at first", 0, () -> new TollTags().more(), -304, () -> Worlds.rich().more());
        Checks.same("NONE", -1, TollTags.NONE);
    }

    // "LANDS at most 9", "ROADS at most 40", "PROVIDERS at most 6", "LORRIES at most 16", "BOXES at most 24",
    // "SIGNALS at most 300", "DISPUTES at most 40", "WAYS at most 20", all "from 0 on".
    private static void manyOfEach() {
        most("at most 9 LANDS", 9, 1, TollTags::new, (x, i) -> x.land());
        most("at most 40 ROADS", 40, 2, BoundsOfThingsTests::oneLand, (x, i) -> x.road(0, 1, 0, 1, 0, i % 2 == 0));
        most("at most 6 PROVIDERS", 6, 3, TollTags::new, (x, i) -> x.provider(i));
        most("at most 16 LORRIES", 16, 4, TollTags::new, (x, i) -> x.lorry(2, 0));
        most("at most 24 BOXES", 24, 5, BoundsOfThingsTests::noBox, (x, i) -> x.box(0, 0));
        most("at most 300 SIGNALS", 300, 6, Worlds::small, (x, i) -> x.signal(0, 0, 0));
        most("at most 40 DISPUTES", 40, 7, BoundsOfThingsTests::oneSignal, (x, i) -> x.dispute(0));
        most("at most 20 WAYS", 20, 8, Worlds::small, (x, i) -> x.way(1, 0, 1));
        TollTags x = oneSignal();
        x.back(0);
        for (int i = 1; i < 300; i++) {
            x.signal(0, 0, 0);
        }
        Checks.due("one TAKEN BACK is one of 300, too", NONE, () -> x.signal(0, 0, 0));
        TollTags y = oneSignal();
        for (int i = 0; i < 40; i++) {
            y.dispute(0);
            y.decide(i, 0, 0);
        }
        Checks.due("one DECIDED is one of 40, too", NONE, () -> y.dispute(0));
    }

    private static TollTags oneLand() {
        TollTags x = new TollTags();
        x.land();
        return x;
    }

    private static TollTags noBox() {
        TollTags x = new TollTags();
        x.provider(0);
        x.lorry(2, 0);
        return x;
    }

    private static TollTags oneSignal() {
        TollTags x = Worlds.small();
        x.signal(0, 0, 0);
        return x;
    }

    // "An object is used for at most 512 calls after it has been made": the 512th is still answered as due.
    private static void fullAtTheLastCall() {
        TollTags x = new TollTags();
        int calls = 0;
        for (; calls < 9; calls++) {
            x.land();
        }
        for (int i = 0; i < 40; i++, calls++) {
            x.road(i % 24, (i + 1) % 24, i % 9, 1 + i, i % 4, i % 2 == 0);
        }
        for (int i = 0; i < 6; i++, calls++) {
            x.provider(1000000);
        }
        for (int i = 0; i < 16; i++, calls++) {
            x.lorry(2 + i % 8, i % 7);
        }
        for (int i = 0; i < 24; i++, calls++) {
            x.box(i % 16, i % 6);
        }
        x.go(129599);
        calls++;
        for (int i = 0; i < 300; i++, calls++) {
            x.signal(i % 24, i % 20 * 2, 129599);
        }
        for (int i = 0; i < 40; i++, calls++) {
            x.dispute(i);
        }
        for (int i = 0; i < 20; i++, calls++) {
            x.way(1, i, 999);
        }
        for (int i = 0; i < 36; i++, calls++) {
            x.terms(i % 9, 0, i);
        }
        for (; calls < 511; calls++) {
            x.black(0, false, 0);
        }
        // BOX 23 has SIGNALS 23, 47 .. 287 on the ROADS 6, 14, 22, 30, 38, 6, 14 ..: 12 of them.
        Checks.due("the 512th call", 12, () -> x.track(23, 0, 129599));
    }

    // "ROADS: from a NODE to another one (0 to 23, unlike), of a LAND, km (1 to 999), sort (0 to 3)".
    private static void numbersOfRoads() {
        range("from NODE 0 to 23", 0, 23, NONE, Worlds::small, (x, n) -> x.road(n, n == 9 ? 8 : 9, 0, 1, 0, true));
        range("to NODE 0 to 23", 0, 23, NONE, Worlds::small, (x, n) -> x.road(n == 9 ? 8 : 9, n, 0, 1, 0, true));
        range("km 1 to 999", 1, 999, NONE, Worlds::small, (x, n) -> x.road(0, 1, 0, n, 0, false));
        range("sort 0 to 3", 0, 3, NONE, Worlds::small, (x, n) -> x.road(0, 1, 0, 1, n, false));
        for (int node = 0; node < 24; node++) {
            int same = node;
            int other = (node + 1) % 24;
            Checks.edge("NODES unlike", NONE, () -> Worlds.small().road(same, same, 0, 1, 0, true),
                1, () -> Worlds.small().road(same, other, 0, 1, 0, true));
        }
        Checks.edge("NODES unlike, not in order", 1, () -> Worlds.small().road(23, 0, 0, 1, 0, true),
            NONE, () -> Worlds.small().road(0, 0, 0, 1, 0, true));
    }

    // "PROVIDERS: a deposit (0 to 1,000,000)", "LORRIES: axles (2 to 9), fumes (0 to 6)".
    private static void numbersOfProvidersAndLorries() {
        range("a deposit of 0 to 1,000,000", 0, 1000000, NONE, TollTags::new, (x, n) -> x.provider(n));
        range("axles 2 to 9", 2, 9, NONE, TollTags::new, (x, n) -> x.lorry(n, 0));
        range("fumes 0 to 6", 0, 6, NONE, TollTags::new, (x, n) -> x.lorry(2, n));
    }

    // "MINUTES from 0 to 129599"; go(): "n is below 0, or it would be above 129599".
    private static void minutes() {
        range("n MINUTES go by", 0, 129599, ILLEGAL, TollTags::new, (x, n) -> x.go(n));
        range("from 129590 on", 0, 9, ILLEGAL, () -> Worlds.smallAt(129590), (x, n) -> x.go(n));
        Checks.edge("n 0 goes on", 129599, () -> Worlds.smallAt(129599).go(0), ILLEGAL,
            () -> Worlds.smallAt(129599).go(1));
        TollTags x = Worlds.smallAt(100);
        Checks.due("refused", ILLEGAL, () -> x.go(129500));
        Checks.edge("NOW stays", 100, () -> x.count(0), 129599, () -> x.go(129499));
    }

    // signal(): "NONE: the ROAD has no GANTRY, or t is not 0 to NOW."
    private static void numbersOfSignals() {
        range("t 0 to NOW", 0, 500, NONE, () -> Worlds.lineAt(500), (x, t) -> x.signal(0, 0, t));
        range("t 0 to NOW at last", 0, 129599, NONE, () -> Worlds.lineAt(129599), (x, t) -> x.signal(0, 0, t));
        Checks.edge("t at NOW 0", 0, () -> Worlds.small().signal(0, 0, 0), NONE, () -> Worlds.small().signal(0, 0, 1));
        Checks.edge("a ROAD with a GANTRY", 0, () -> Worlds.lineAt(0).signal(0, 3, 0),
            NONE, () -> Worlds.lineAt(0).signal(0, 2, 0));
    }

    // "NoSuchElementException: no such LAND, LORRY, PROVIDER, BOX, ROAD, SIGNAL, DISPUTE (as everywhere)".
    // rich() has LANDS 0, 1; PROVIDERS 0, 1; LORRIES 0, 1; BOXES 0 to 2; ROADS 0 to 4; SIGNALS 0 to 6; DISPUTES 0 to 2.
    private static void thingsThereAre() {
        there("LAND of a ROAD", 1, (x, n) -> x.road(0, 1, n, 1, 0, true));
        there("LORRY of a BOX", 1, (x, n) -> x.box(n, 1));
        there("PROVIDER of a BOX", 1, (x, n) -> x.box(1, n));
        there("BOX of a SIGNAL", 2, (x, n) -> x.signal(n, 0, 0));
        Checks.edge("ROAD of a SIGNAL", 7, () -> Worlds.rich().signal(0, 4, 0), NO_SUCH,
            () -> Worlds.rich().signal(0, 5, 0));
        Checks.edge("ROAD 0 of a SIGNAL", 7, () -> Worlds.rich().signal(0, 0, 0), NO_SUCH,
            () -> Worlds.rich().signal(0, -1, 0));
        there("SIGNAL taken back", 6, (x, n) -> Checks.truth(x.back(n)));
        there("SIGNAL of a DISPUTE", 6, (x, n) -> x.dispute(n));
        there("LAND of TERMS", 1, (x, n) -> x.terms(n, 20, 0));
        there("LAND of a TRY", 1, (x, n) -> x.attempt(n, 20, 0));
        there("BOX of BLACK", 2, (x, n) -> x.black(n, true, 0));
        there("LAND of a RATE", 1, (x, n) -> Checks.truth(x.rate(n, 0, 1)));
    }

    private static void there(String sentence, int greatest, Asking call) {
        range("such a " + sentence, 0, greatest, NO_SUCH, Worlds::rich, call);
    }

    // decide(): "NoSuchElementException: no such DISPUTE; with how 2 no such ROAD." "False: it was, how is not 0 to 2,
    // or 2 with a ROAD without a GANTRY."
    private static void thingsOfDecisions() {
        there("DISPUTE", 2, (x, n) -> Checks.truth(x.decide(n, 0, 0)));
        Checks.edge("with how 2 a ROAD", 1, () -> decided(2, 4), NO_SUCH, () -> decided(2, 5));
        Checks.edge("with how 2 ROAD 0", 1, () -> decided(2, 0), NO_SUCH, () -> decided(2, -1));
        Checks.edge("with how 1 any number", 1, () -> decided(1, 5), NO_SUCH, () -> decided(2, 5));
        Checks.edge("with how 0 any number", 1, () -> decided(0, MIN), NO_SUCH, () -> decided(2, MIN));
        Checks.edge("with how 3 any number", 0, () -> decided(3, 5), NO_SUCH, () -> decided(2, 5));
        Checks.edge("how 0", 1, () -> decided(0, 0), 0, () -> decided(-1, 0));
        Checks.edge("how 2", 1, () -> decided(2, 0), 0, () -> decided(3, 0));
        Checks.edge("how MIN and MAX", 0, () -> decided(MIN, 0) + decided(MAX, 0), 2,
            () -> decided(1, 0) + decided(2, 0));
        Checks.edge("2 with a GANTRY", 1, () -> decided(2, 3), 0, () -> decided(2, 2));
        Checks.edge("1 without a GANTRY", 1, () -> decided(1, 2), 0, () -> decided(2, 2));
        TollTags x = Worlds.rich();
        Checks.edge("DECIDED once", 1, () -> Checks.truth(x.decide(0, 1, 0)), 0, () -> Checks.truth(x.decide(0, 2, 3)));
        Checks.edge("a refusal is a decision", 0, () -> Checks.truth(x.decide(1, 1, 0)), 1,
            () -> Checks.truth(x.decide(2, 1, 0)));
        Checks.due("no such ROAD, though it was DECIDED", NO_SUCH, () -> Checks.truth(x.decide(0, 2, 5)));
        TollTags y = Worlds.rich();
        Checks.edge("a refused call decides nothing", 0, () -> Checks.truth(y.decide(0, 3, 0)), 1,
            () -> Checks.truth(y.decide(0, 2, 3)));
    }

    private static long decided(int how, int road) {
        return Checks.truth(Worlds.rich().decide(0, how, road));
    }

    // "no such BOX, PROVIDER, LAND, MONTH (0 to 2)" of track(), passage(), due(), unpaid(), falls(), rate().
    private static void thingsOfSums() {
        there("BOX of a track", 2, (x, n) -> x.track(n, 0, 1000));
        there("BOX of a PASSAGE", 2, (x, n) -> x.passage(n, 0, 0, 1000));
        there("PROVIDER that is due", 1, (x, n) -> 1 + x.due(n, 0, 0, 1000));
        there("LAND that is due", 1, (x, n) -> 1 + x.due(0, n, 0, 1000));
        there("MONTH that is due", 2, (x, n) -> 1 + x.due(0, 0, n, 1000));
        there("LAND unpaid", 1, (x, n) -> 1 + x.unpaid(n, 0, 1000));
        there("MONTH unpaid", 2, (x, n) -> 1 + x.unpaid(0, n, 1000));
        there("PROVIDER that falls", 1, (x, n) -> 1 + x.falls(n, 0, 1000));
        there("LAND that gets", 1, (x, n) -> 1 + x.falls(0, n, 1000));
        range("a RATE's MONTH 0 to 2", 0, 2, 0, Worlds::rich, (x, n) -> Checks.truth(x.rate(0, n, 1)));
        range("parts 1 to 99999", 1, 99999, 0, Worlds::rich, (x, n) -> Checks.truth(x.rate(0, 0, n)));
        // BOX 0 has 4 PASSAGES.
        range("such a PASSAGE", 0, 3, NO_SUCH, Worlds::rich, (x, n) -> x.passage(0, n, 0, 1000));
    }

    // "IllegalArgumentException: no such MINUTE (0 to NOW)", "likewise".
    private static void knownMinutes() {
        known((x, k) -> x.track(0, 0, k));
        known((x, k) -> 1 + x.due(0, 0, 0, k));
        known((x, k) -> x.unpaid(0, 0, k));
        known((x, k) -> x.falls(0, 0, k));
        Checks.edge("a PASSAGE whose SIGNAL was told at 990", 0, () -> Worlds.rich().passage(0, 0, 0, 990),
            NO_SUCH, () -> Worlds.rich().passage(0, 0, 0, 989));
        Checks.edge("a PASSAGE known NOW", 0, () -> Worlds.rich().passage(0, 0, 0, 1000),
            ILLEGAL, () -> Worlds.rich().passage(0, 0, 0, 1001));
        Checks.edge("a PASSAGE known at 0", NO_SUCH, () -> Worlds.rich().passage(0, 0, 0, 0),
            ILLEGAL, () -> Worlds.rich().passage(0, 0, 0, -1));
    }

    private static void known(Asking call) {
        range("known at 0 to NOW", 0, 1000, ILLEGAL, Worlds::rich, call);
        range("known at 0 to NOW, which is 0", 0, 0, ILLEGAL, Worlds::small, call);
    }

    // "NoSuchElementException: another what." of track() 0 to 5, passage() 0 to 6, count() 0 to 9.
    private static void whats() {
        range("what of track()", 0, 5, NO_SUCH, Worlds::rich, (x, what) -> x.track(0, what, 1000));
        range("what of passage()", 0, 6, NO_SUCH, Worlds::rich, (x, what) -> x.passage(0, 0, what, 1000));
        range("what of count()", 0, 9, NO_SUCH, Worlds::rich, (x, what) -> x.count(what));
    }

    private static void refusedThings() {
        refused("a ROAD of no LAND", NO_SUCH, (x, n) -> x.road(0, 1, 2, 1, 0, false));
        refused("a ROAD to its own NODE", NONE, (x, n) -> x.road(1, 1, 0, 1, 0, false));
        refused("a ROAD from NODE 24", NONE, (x, n) -> x.road(24, 1, 0, 1, 0, false));
        refused("a ROAD of 0 km", NONE, (x, n) -> x.road(4, 0, 0, 0, 0, false));
        refused("a ROAD of 1000 km", NONE, (x, n) -> x.road(4, 0, 0, 1000, 0, false));
        refused("a ROAD of sort 4", NONE, (x, n) -> x.road(4, 0, 0, 1, 4, false));
        refused("a deposit of -1", NONE, (x, n) -> x.provider(-1));
        refused("a LORRY of 10 axles", NONE, (x, n) -> x.lorry(10, 0));
        refused("a LORRY of fumes 7", NONE, (x, n) -> x.lorry(2, 7));
        refused("a BOX of no LORRY", NO_SUCH, (x, n) -> x.box(2, 0));
        refused("a BOX of no PROVIDER", NO_SUCH, (x, n) -> x.box(0, 2));
        refused("n below 0", ILLEGAL, (x, n) -> x.go(-1));
        refused("n beyond the end", ILLEGAL, (x, n) -> x.go(129000));
    }

    private static void refusedSignals() {
        refused("a SIGNAL of no BOX", NO_SUCH, (x, n) -> x.signal(3, 0, 0));
        refused("a SIGNAL on no ROAD", NO_SUCH, (x, n) -> x.signal(0, 5, 0));
        refused("a SIGNAL without a GANTRY", NONE, (x, n) -> x.signal(0, 1, 0));
        refused("a SIGNAL behind NOW", NONE, (x, n) -> x.signal(0, 0, 1001));
        refused("TAKEN BACK already", 0, (x, n) -> Checks.truth(x.back(6)));
        refused("no SIGNAL taken back", NO_SUCH, (x, n) -> Checks.truth(x.back(7)));
        refused("a DISPUTE of no SIGNAL", NO_SUCH, (x, n) -> x.dispute(7));
        refused("DECIDED already", 0, (x, n) -> Checks.truth(x.decide(1, 1, 0)));
        refused("how 3", 0, (x, n) -> Checks.truth(x.decide(0, 3, 0)));
        refused("2 without a GANTRY", 0, (x, n) -> Checks.truth(x.decide(0, 2, 1)));
        refused("2 on no ROAD", NO_SUCH, (x, n) -> Checks.truth(x.decide(0, 2, 5)));
        refused("no DISPUTE", NO_SUCH, (x, n) -> Checks.truth(x.decide(3, 1, 0)));
    }

    // "IllegalArgumentException: the tape has not so many, n below 0 (nothing changes)."
    private static void refusedTexts() {
        refused("TERMS of more than the tape", ILLEGAL, (x, n) -> x.terms(0, 21, 0));
        refused("TERMS of less than nothing", ILLEGAL, (x, n) -> x.terms(0, -1, 0));
        refused("TERMS of no LAND", NO_SUCH, (x, n) -> x.terms(2, 7, 0));
        refused("a TRY of more than the tape", ILLEGAL, (x, n) -> x.attempt(0, 21, 0));
        refused("a TRY of less than nothing", ILLEGAL, (x, n) -> x.attempt(0, -1, 0));
        refused("a TRY of no LAND", NO_SUCH, (x, n) -> x.attempt(2, 7, 0));
    }

    private static void refusedSums() {
        refused("BLACK of no BOX", NO_SUCH, (x, n) -> x.black(3, true, 0));
        refused("a RATE of no LAND", NO_SUCH, (x, n) -> Checks.truth(x.rate(2, 0, 1)));
        refused("a RATE of MONTH 3", 0, (x, n) -> Checks.truth(x.rate(0, 3, 1)));
        refused("a RATE of 0 parts", 0, (x, n) -> Checks.truth(x.rate(0, 0, 0)));
        refused("a RATE of 100000 parts", 0, (x, n) -> Checks.truth(x.rate(0, 0, 100000)));
        refused("a WAY of no ROADS", NONE, (x, n) -> x.way(0, 0, 1));
        refused("a WAY of 7 ROADS", NONE, (x, n) -> x.way(7, 0, 1));
        refused("a WAY of 1000 LORRIES", NONE, (x, n) -> x.way(1, 0, 1000));
        refused("a WAY on no ROAD", NO_SUCH, (x, n) -> x.way(2, 5 << 6, 1));
        refused("cameras(13)", ILLEGAL, (x, n) -> x.cameras(13));
        refused("another what", NO_SUCH, (x, n) -> x.count(10));
        refused("a MINUTE behind NOW", ILLEGAL, (x, n) -> x.track(0, 0, 1001));
        refused("no PASSAGE", NO_SUCH, (x, n) -> x.passage(0, 4, 0, 1000));
    }

    // "NoSuchElementException (ahead of NONE, but in way())", "IllegalArgumentException (behind NoSuchElementException)".
    private static void exceptionsFirst() {
        Checks.edge("ROAD", NO_SUCH, () -> Worlds.rich().road(1, 1, 2, 1, 0, true),
            NONE, () -> Worlds.rich().road(1, 1, 1, 1, 0, true));
        Checks.edge("SIGNAL", NO_SUCH, () -> Worlds.rich().signal(3, 1, 1001),
            NONE, () -> Worlds.rich().signal(2, 1, 1001));
        Checks.edge("SIGNAL on no ROAD", NO_SUCH, () -> Worlds.rich().signal(0, 5, 1001),
            NONE, () -> Worlds.rich().signal(0, 4, 1001));
        Checks.edge("RATE", NO_SUCH, () -> Checks.truth(Worlds.rich().rate(2, 3, 0)),
            0, () -> Checks.truth(Worlds.rich().rate(1, 3, 0)));
        Checks.edge("WAY: NONE first", NONE, () -> Worlds.rich().way(1, 5, 0), NO_SUCH, () -> Worlds.rich().way(1, 5, 1));
        Checks.edge("WAY of 7: NONE first", NONE, () -> Worlds.rich().way(7, 5, 1),
            NO_SUCH, () -> Worlds.rich().way(6, 5, 1));
        Checks.edge("TERMS", NO_SUCH, () -> Worlds.rich().terms(2, 21, -1), ILLEGAL, () -> Worlds.rich().terms(1, 21, -1));
        Checks.edge("TERMS of no minute", 9, () -> Worlds.rich().terms(1, 20, -1),
            ILLEGAL, () -> Worlds.rich().terms(1, 21, -1));
        Checks.edge("TRY", NO_SUCH, () -> Worlds.rich().attempt(2, -1, -1),
            ILLEGAL, () -> Worlds.rich().attempt(1, -1, -1));
        Checks.edge("TRY of no minute", 9, () -> Worlds.rich().attempt(1, 0, -1),
            ILLEGAL, () -> Worlds.rich().attempt(1, -1, -1));
        fullOnes();
    }

    private static void fullOnes() {
        TollTags x = Worlds.rich();
        for (int i = 0; i < 60; i++) {
            x.road(0, 1, 0, 1, 0, true);
            x.box(0, 0);
            x.dispute(0);
            x.way(1, 0, 1);
            x.black(0, true, 0);
            x.rate(0, 0, 1);
        }
        Checks.edge("41st ROAD", NONE, () -> x.road(0, 1, 1, 1, 0, true), NO_SUCH, () -> x.road(0, 1, 2, 1, 0, true));
        Checks.edge("25th BOX", NONE, () -> x.box(1, 1), NO_SUCH, () -> x.box(1, 2));
        Checks.edge("41st DISPUTE", NONE, () -> x.dispute(6), NO_SUCH, () -> x.dispute(7));
        Checks.edge("61st BLACK", NONE, () -> x.black(23, true, 0), NO_SUCH, () -> x.black(24, true, 0));
        Checks.edge("61st RATE", 0, () -> Checks.truth(x.rate(1, 0, 1)), NO_SUCH, () -> Checks.truth(x.rate(2, 0, 1)));
        Checks.due("21st WAY: NONE ahead of no ROAD", NONE, () -> x.way(1, 40, 1));
        Checks.due("21st WAY", NONE, () -> x.way(1, 39, 1));
    }

    private static void questionsChangeNothing() {
        TollTags x = Worlds.rich();
        String first = Worlds.all(x);
        Checks.same("asked twice", 1, Checks.truth(first.equals(Worlds.all(x))));
        Checks.same("two objects", 1, Checks.truth(first.equals(Worlds.all(Worlds.rich()))));
    }
}
