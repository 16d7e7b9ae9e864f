/**
 * The edges of "==== 2." and of signal(), back(), dispute(), decide(), track(), passage(): what is known at k, which
 * SIGNALS COUNT, what is guessed between them, and which are DOUBLE.
 */
public final class BoundsOfTracksTests {
    private static final int NONE = TollTags.NONE;
    private static final int NO_SUCH = Checks.NO_SUCH;

    private BoundsOfTracksTests() {
    }

    public static void main(String[] args) {
        knownSignals();
        knownDecisions();
        knownSums();
        knownTerms();
        decidedLast();
        countsWithoutDispute();
        lateByMinutes();
        lateByRoad();
        lateForMinute();
        byMinuteAndNumber();
        apart();
        sideBySide();
        oneNode();
        noWay();
        roadsOfWays();
        leastKm();
        fewestRoads();
        firstRow();
        minuteOfGuessed();
        partsOfTrack();
        partsOfPassage();
        passagesThereAre();
        doubleByMinutes();
        doubleByBox();
        doubleByRoad();
        doubleByTerms();
        doubleByCounting();
        goneOfLand();
        goneOfMonth();
        goneAhead();
        Checks.end();
    }

    private static void edge(String sentence, long want, Checks.Call edge, long wantBeside, Checks.Call beside) {
        Checks.edge(sentence, want, edge, wantBeside, beside);
    }

    /** SIGNALS of BOX 0 as pairs of a ROAD and a MINUTE t. */
    private static TollTags passing(TollTags x, int... roadsAndMinutes) {
        for (int i = 0; i + 1 < roadsAndMinutes.length; i += 2) {
            x.signal(0, roadsAndMinutes[i], roadsAndMinutes[i + 1]);
        }
        return x;
    }

    // "SIGNALS told at k or ahead, not TAKEN BACK at k or ahead"
    private static void knownSignals() {
        TollTags x = passing(Worlds.smallAt(10), 0, 5);
        x.go(10);
        x.back(0);
        edge("told at k", 1, () -> x.track(0, 0, 10), 0, () -> x.track(0, 0, 9));
        edge("by the MINUTE it was told, not t", 0, () -> x.track(0, 0, 5), 1, () -> x.track(0, 0, 11));
        edge("TAKEN BACK at k", 0, () -> x.track(0, 0, 20), 1, () -> x.track(0, 0, 19));
        TollTags y = passing(Worlds.small(), 0, 0);
        edge("known at 0", 1, () -> y.track(0, 0, 0), 0, () -> Worlds.small().track(0, 0, 0));
        edge("TAKEN BACK", 1, () -> Checks.truth(y.back(0)), 0, () -> Checks.truth(y.back(0)));
        Checks.due("told and TAKEN BACK in one MINUTE", 0, () -> y.track(0, 0, 0));
    }

    // "DISPUTES DECIDED at k or ahead"
    private static void knownDecisions() {
        TollTags x = passing(Worlds.lineAt(10), 0, 5);
        x.dispute(0);
        x.dispute(0);
        x.go(10);
        Checks.due("not DECIDED", 0, () -> x.passage(0, 0, 0, 20));
        x.decide(0, 2, 3);
        x.go(10);
        x.decide(1, 1, 0);
        edge("on another ROAD as known at k", 3, () -> x.passage(0, 0, 0, 20), 0, () -> x.passage(0, 0, 0, 19));
        edge("it doesn't count as known at k", 0, () -> x.track(0, 0, 30), 1, () -> x.track(0, 0, 29));
        Checks.due("on another ROAD until then", 3, () -> x.passage(0, 0, 0, 29));
    }

    // "BLACK, RATES, TERMS told at k or ahead"
    private static void knownSums() {
        TollTags x = passing(Worlds.smallAt(10), 0, 5);
        x.go(10);
        x.rate(0, 0, 2000);
        x.go(10);
        x.black(0, true, 0);
        edge("a RATE told at k", 140, () -> x.due(0, 0, 0, 20), 70, () -> x.due(0, 0, 0, 19));
        edge("a RATE if it FALLS", 140, () -> x.falls(0, 0, 20), 70, () -> x.falls(0, 0, 19));
        edge("BLACK told at k", 1, () -> x.passage(0, 0, 6, 30), 0, () -> x.passage(0, 0, 6, 29));
        edge("UNPAID as known at k", 70, () -> x.unpaid(0, 0, 30), 0, () -> x.unpaid(0, 0, 29));
        edge("due as known at k", 0, () -> x.due(0, 0, 0, 30), 140, () -> x.due(0, 0, 0, 29));
        edge("of what it FALLS as known at k", 0, () -> x.falls(0, 0, 30), 140, () -> x.falls(0, 0, 29));
    }

    private static void knownTerms() {
        TollTags x = passing(Worlds.smallAt(10), 0, 5);
        x.go(10);
        Checks.terms(x, 0, "toll 1;", 0);
        x.go(10);
        Checks.terms(x, 0, "late 4;", 0);
        edge("TERMS told at k", 1, () -> x.passage(0, 0, 2, 20), 70, () -> x.passage(0, 0, 2, 19));
        edge("'late' as known at k", 0, () -> x.track(0, 0, 30), 1, () -> x.track(0, 0, 29));
        TollTags y = Worlds.smallAt(10);
        y.box(0, 0);
        y.signal(0, 0, 5);
        y.signal(1, 0, 6);
        y.go(10);
        Checks.terms(y, 0, "double 0;", 0);
        edge("'double' as known at k", 0, () -> y.track(1, 4, 20), 1, () -> y.track(1, 4, 19));
    }

    // "of one SIGNAL the one DECIDED last, of 1 and 2"
    private static void decidedLast() {
        edge("2 behind 1", 1, () -> decided(1, 2).track(0, 0, 0), 0, () -> decided(2, 1).track(0, 0, 0));
        edge("0 behind 1 is none", 0, () -> decided(1, 0).track(0, 0, 0), 1, () -> decided(0, 0).track(0, 0, 0));
        edge("0 behind 2 is none", 3, () -> decided(2, 0).passage(0, 0, 0, 0),
            0, () -> decided(0, 0).passage(0, 0, 0, 0));
        edge("1 behind 0", 0, () -> decided(0, 1).track(0, 0, 0), 1, () -> decided(0, 2).track(0, 0, 0));
        TollTags x = passing(Worlds.lineAt(0), 0, 0);
        x.dispute(0);
        x.dispute(0);
        x.decide(1, 1, 0);
        edge("by when it was DECIDED, not by number", 0, () -> x.track(0, 0, 0),
            1, () -> Checks.truth(x.decide(0, 2, 3)) * x.track(0, 0, 0));
        TollTags y = passing(Worlds.lineAt(0), 0, 0, 0, 0);
        y.dispute(1);
        y.decide(0, 1, 0);
        edge("of one SIGNAL", 0, () -> y.passage(0, 0, 3, 0), NO_SUCH, () -> y.passage(0, 1, 3, 0));
        TollTags z = passing(Worlds.lineAt(0), 0, 0);
        z.dispute(0);
        edge("2 on its own ROAD", 1, () -> Checks.truth(z.decide(0, 2, 0)), 0, () -> Checks.truth(z.decide(0, 2, 0)));
        Checks.due("stays on it", 0, () -> z.passage(0, 0, 0, 0));
    }

    /** A SIGNAL on ROAD 0 whose DISPUTES were DECIDED so, one after another, with ROAD 3. */
    private static TollTags decided(int... hows) {
        TollTags x = passing(Worlds.lineAt(0), 0, 0);
        for (int i = 0; i < hows.length; i++) {
            x.dispute(0);
            x.decide(i, hows[i], 3);
        }
        return x;
    }

    // "A SIGNAL COUNTS, if it is known, no DISPUTE 1 is of it"
    private static void countsWithoutDispute() {
        edge("DISPUTE 1", 0, () -> decided(1).track(0, 0, 0), 1, () -> decided().track(0, 0, 0));
        edge("DISPUTE 0", 1, () -> decided(0).track(0, 0, 0), 0, () -> decided(1).track(0, 0, 0));
        TollTags x = decided(2);
        Checks.due("DISPUTE 2", 1, () -> x.track(0, 0, 0));
        x.back(0);
        edge("DISPUTE 2, TAKEN BACK", 0, () -> x.track(0, 0, 0), 1, () -> decided(2).track(0, 0, 0));
        Checks.due("a DISPUTE of one TAKEN BACK", 1, () -> x.dispute(0));
    }

    // "and it was told at most 'late' MINUTES behind t"
    private static void lateByMinutes() {
        edge("10080 behind", 1, () -> toldAt("", 10080, 0), 0, () -> toldAt("", 10081, 0));
        edge("at the end", 1, () -> toldAt("", 129599, 119519), 0, () -> toldAt("", 129599, 119518));
        edge("late 7", 1, () -> toldAt("late 7;", 17, 10), 0, () -> toldAt("late 7;", 18, 10));
        edge("late 0", 1, () -> toldAt("late 0;", 10, 10), 0, () -> toldAt("late 0;", 10, 9));
        edge("late 10081", 1, () -> toldAt("late 10081;", 10081, 0), 0, () -> toldAt("late 10079;", 10080, 0));
        TollTags x = passing(Worlds.smallAt(10080), 0, 0);
        x.go(1000);
        edge("behind t when it was told, not at k", 1, () -> x.track(0, 0, 11080), 0, () -> toldAt("", 11080, 0));
    }

    private static int toldAt(String text, int now, int t) {
        TollTags x = passing(Worlds.smallAt(now), 0, t);
        Checks.terms(x, 0, text, 0);
        return x.track(0, 0, now);
    }

    // "(by TERMS of the LAND of its ROAD as DECIDED"
    private static void lateByRoad() {
        edge("of its ROAD", 1, () -> lateOn(0, NONE), 0, () -> lateOn(1, NONE));
        edge("as DECIDED", 0, () -> lateOn(0, 1), 1, () -> lateOn(1, 0));
        edge("as DECIDED, on its own", 1, () -> lateOn(0, 0), 0, () -> lateOn(1, 1));
        TollTags x = strictLand(0);
        x.dispute(0);
        x.go(5);
        x.decide(0, 2, 1);
        edge("as DECIDED as known at k", 0, () -> x.track(0, 0, 105), 1, () -> x.track(0, 0, 104));
    }

    private static int lateOn(int road, int decided) {
        TollTags x = strictLand(road);
        if (decided != NONE) {
            x.dispute(0);
            x.decide(0, 2, decided);
        }
        return x.track(0, 0, 100);
    }

    /** ROAD 0 of LAND 0 without TERMS, ROAD 1 of LAND 1 with 'late 9', and a SIGNAL for 90 that was told at 100. */
    private static TollTags strictLand(int road) {
        TollTags x = Worlds.smallAt(100);
        x.land();
        x.road(2, 3, 1, 5, 0, true);
        Checks.terms(x, 1, "late 9;", 0);
        return passing(x, road, 90);
    }

    // "for t)": not for the MINUTE at which it was told.
    private static void lateForMinute() {
        TollTags x = Worlds.smallAt(60);
        Checks.terms(x, 0, "late 0;", 50);
        passing(x, 0, 49);
        Checks.due("ahead of the TERMS' beginning", 1, () -> x.track(0, 0, 60));
        edge("from their beginning on", 1, () -> passing(x, 0, 50).track(0, 0, 60), 2,
            () -> passing(x, 0, 60).track(0, 0, 60));
    }

    // "TRACK of a BOX: its SIGNALS that COUNT, by t, of like t by number"
    private static void byMinuteAndNumber() {
        TollTags x = passing(Worlds.smallAt(900), 0, 500, 0, 300, 0, 500, 0, 301, 0, 299, 0, 300, 0, 900, 0, 0);
        int[] want = {7, 4, 1, 5, 3, 0, 2, 6};
        for (int i = 0; i < want.length; i++) {
            int place = i;
            Checks.due("SIGNAL " + i + " along the TRACK", want[i], () -> x.passage(0, place, 3, 900));
        }
        edge("by t", 1, () -> orderOf(5, 4), 0, () -> orderOf(4, 5));
        edge("of like t by number", 0, () -> orderOf(5, 5), 1, () -> orderOf(6, 5));
        TollTags y = passing(Worlds.smallAt(5), 0, 5);
        y.box(0, 0);
        y.signal(1, 0, 5);
        edge("of a BOX", 0, () -> y.passage(0, 0, 3, 5), 1, () -> y.passage(1, 0, 3, 5));
        edge("no other's", NO_SUCH, () -> y.passage(0, 1, 3, 5), 0, () -> y.passage(0, 0, 3, 5));
    }

    /** The first SIGNAL along a TRACK of two with these MINUTES. */
    private static int orderOf(int first, int second) {
        return passing(Worlds.smallAt(9), 0, first, 0, second).passage(0, 0, 3, 9);
    }

    // "between two side by side, whose t are at most 180 apart"
    private static void apart() {
        edge("180 apart", 2, () -> guessed(100, 280), 0, () -> guessed(100, 281));
        edge("0 apart", 2, () -> guessed(100, 100), 0, () -> guessed(0, 181));
        edge("180 apart: BROKEN", 1, () -> broken(100, 280), 0, () -> broken(100, 281));
        edge("0 apart: BROKEN", 1, () -> broken(100, 100), 0, () -> broken(0, 181));
        edge("at the end of time", 2, () -> passing(Worlds.lineAt(129599), 0, 129419, 3, 129599).track(0, 5, 129599),
            0, () -> passing(Worlds.lineAt(129599), 0, 129418, 3, 129599).track(0, 5, 129599));
    }

    private static int guessed(int first, int second) {
        return passing(Worlds.lineAt(1000), 0, first, 3, second).track(0, 5, 1000);
    }

    private static int broken(int first, int second) {
        return passing(Worlds.lineAt(1000), 3, first, 3, second).track(0, 1, 1000);
    }

    // "between two side by side": of those that COUNT, none farther away.
    private static void sideBySide() {
        TollTags x = passing(Worlds.lineAt(1000), 0, 100, 0, 150, 3, 200);
        edge("the middle one is side by side with both", 1, () -> x.track(0, 1, 1000), 2, () -> x.track(0, 5, 1000));
        x.back(1);
        edge("without it", 0, () -> x.track(0, 1, 1000), 2, () -> x.track(0, 5, 1000));
        TollTags y = passing(Worlds.lineAt(1000), 0, 100, 0, 190, 3, 290);
        int ahead = y.track(0, 5, 1000);
        y.back(1);
        edge("the two left are 190 apart", 2, () -> ahead, 0, () -> y.track(0, 5, 1000));
        TollTags z = passing(Worlds.lineAt(1000), 0, 100);
        z.box(0, 0);
        z.signal(1, 3, 200);
        edge("of one BOX", 0, () -> z.track(0, 5, 1000), 2, () -> passing(z, 3, 200).track(0, 5, 1000));
        edge("one alone", 0, () -> passing(Worlds.lineAt(9), 0, 5).track(0, 1, 9),
            1, () -> passing(Worlds.lineAt(9), 0, 5, 0, 6).track(0, 1, 9));
    }

    // "none, if these are one NODE"
    private static void oneNode() {
        TollTags x = Worlds.lineAt(9);
        x.road(1, 0, 0, 2, 0, true);
        x.road(1, 5, 0, 2, 0, false);
        x.road(5, 1, 0, 2, 0, false);
        passing(x, 0, 1, 4, 2);
        Checks.due("none, not even a round way", 2, () -> x.track(0, 0, 9));
        edge("it isn't BROKEN", 0, () -> x.track(0, 1, 9), 2, () -> passing(x, 3, 3, 4, 4).track(0, 1, 9));
    }

    // "or there is no way (it is BROKEN then)"
    private static void noWay() {
        TollTags x = passing(Worlds.lineAt(9), 3, 1, 0, 2);
        edge("no way: none", 2, () -> x.track(0, 0, 9), 1, () -> x.track(0, 1, 9));
        x.road(4, 7, 0, 3, 0, false);
        edge("half a way", 2, () -> x.track(0, 0, 9), 1, () -> x.track(0, 1, 9));
        x.road(7, 0, 0, 3, 0, false);
        edge("a way", 4, () -> x.track(0, 0, 9), 0, () -> x.track(0, 1, 9));
        TollTags y = passing(Worlds.lineAt(900), 3, 1, 0, 181, 3, 361, 0, 542);
        edge("how many BROKEN places", 1, () -> y.track(0, 1, 900), 3, () -> passing(y, 0, 500).track(0, 1, 900));
    }

    // "by ROADS without a GANTRY", "they go one way", of any LAND
    private static void roadsOfWays() {
        edge("without a GANTRY", 1, () -> between(4, 0, false).track(0, 5, 9),
            0, () -> between(4, 0, true).track(0, 5, 9));
        edge("with one it is BROKEN", 1, () -> between(4, 0, true).track(0, 1, 9),
            0, () -> between(4, 0, false).track(0, 1, 9));
        edge("one way", 1, () -> between(4, 0, false).track(0, 5, 9), 0, () -> between(0, 4, false).track(0, 5, 9));
        TollTags x = Worlds.lineAt(9);
        x.land();
        x.road(4, 0, 1, 8, 0, false);
        passing(x, 3, 1, 0, 2);
        edge("of any LAND", 4, () -> x.passage(0, 1, 0, 9), NO_SUCH, () -> x.passage(0, 3, 0, 9));
    }

    /** SIGNALS on ROADS 3 and 0, and one ROAD more, for a way from NODE 4 to 0. */
    private static TollTags between(int from, int to, boolean gantry) {
        TollTags x = Worlds.lineAt(9);
        x.road(from, to, 0, 8, 0, gantry);
        return passing(x, 3, 1, 0, 2);
    }

    /** From NODE 1 to 9 there are ROADS 2 (of some km) and 3, 4 (6 and 4 km) by NODE 5. */
    private static TollTags fork(int km) {
        TollTags x = Worlds.smallAt(9);
        x.road(9, 10, 0, 1, 0, true);
        x.road(1, 9, 0, km, 0, false);
        x.road(1, 5, 0, 6, 0, false);
        x.road(5, 9, 0, 4, 0, false);
        return passing(x, 0, 1, 1, 2);
    }

    // "fewest km"
    private static void leastKm() {
        edge("fewest km", 2, () -> fork(9).passage(0, 1, 0, 9), 3, () -> fork(11).passage(0, 1, 0, 9));
        edge("with more ROADS", 2, () -> fork(11).track(0, 5, 9), 1, () -> fork(9).track(0, 5, 9));
        TollTags x = fork(11);
        x.road(5, 6, 0, 1, 0, false);
        x.road(6, 9, 0, 2, 0, false);
        Checks.due("one km less by one ROAD more", 3, () -> x.track(0, 5, 9));
        x.road(1, 9, 0, 9, 0, false);
        edge("of like km again", 7, () -> x.passage(0, 1, 0, 9), 1, () -> x.track(0, 5, 9));
        edge("999 km by one ROAD", 999 + 8, () -> wide(23).track(0, 3, 9), 998 + 8, () -> wide(22).track(0, 3, 9));
    }

    /** From NODE 0 to 23 there is a ROAD of 999 km, and one of many ROADS, all of 1 km but the last. */
    private static TollTags wide(int roads) {
        TollTags x = new TollTags();
        x.land();
        x.provider(0);
        x.lorry(2, 0);
        x.box(0, 0);
        x.go(9);
        x.road(1, 0, 0, 1, 0, true);
        x.road(23, 2, 0, 7, 0, true);
        x.road(0, 23, 0, 999, 0, false);
        int node = 0;
        for (int i = 1; i < roads; i++) {
            x.road(node, i, 0, 1, 0, false);
            node = i;
        }
        x.road(node, 23, 0, roads == 23 ? 999 - 22 : 998 - 21, 0, false);
        return passing(x, 0, 1, 1, 2);
    }

    // "of like ones fewest ROADS"
    private static void fewestRoads() {
        edge("of 10 km by one ROAD", 2, () -> fork(10).passage(0, 1, 0, 9), 3, () -> fork(11).passage(0, 1, 0, 9));
        TollTags x = fork(11);
        x.road(1, 6, 0, 4, 0, false);
        x.road(6, 7, 0, 3, 0, false);
        x.road(7, 9, 0, 3, 0, false);
        edge("two rather than three", 2, () -> x.track(0, 5, 9), 3, () -> x.passage(0, 1, 0, 9));
        edge("one rather than 22", 1, () -> wide(23).track(0, 5, 9), 22, () -> wide(22).track(0, 5, 9));
    }

    // "of like ones the first as a row of ROADS"
    private static void firstRow() {
        TollTags x = fork(11);
        x.road(1, 7, 0, 5, 0, false);
        x.road(7, 9, 0, 5, 0, false);
        edge("by the first ROAD", 3, () -> x.passage(0, 1, 0, 9), 4, () -> x.passage(0, 2, 0, 9));
        x.road(5, 9, 0, 4, 0, false);
        edge("then by the second", 4, () -> x.passage(0, 2, 0, 9), 1, () -> x.passage(0, 3, 3, 9));
        TollTags y = Worlds.smallAt(9);
        y.road(9, 10, 0, 1, 0, true);
        y.road(7, 9, 0, 5, 0, false);
        y.road(1, 5, 0, 5, 0, false);
        y.road(5, 9, 0, 5, 0, false);
        y.road(1, 7, 0, 5, 0, false);
        passing(y, 0, 1, 1, 2);
        edge("3, 4 ahead of 5, 2", 3, () -> y.passage(0, 1, 0, 9), 4, () -> y.passage(0, 2, 0, 9));
        y.road(7, 9, 0, 4, 0, false);
        edge("of like ones only", 5, () -> y.passage(0, 1, 0, 9), 6, () -> y.passage(0, 2, 0, 9));
    }

    // "a GUESSED one's MINUTE is that of the SIGNAL ahead"
    private static void minuteOfGuessed() {
        TollTags x = passing(Worlds.lineAt(44000), 0, 43199, 3, 43200);
        edge("that of the SIGNAL ahead", 43199, () -> x.passage(0, 2, 1, 44000), 43200, () -> x.passage(0, 3, 1, 44000));
        edge("its MONTH", 140, () -> x.due(0, 0, 0, 44000), 50, () -> x.due(0, 0, 1, 44000));
        Checks.terms(x, 0, "toll hour+100;", 0);
        edge("its hour", 123, () -> x.passage(0, 1, 2, 44000), 100, () -> x.passage(0, 3, 2, 44000));
        x.black(0, true, 43200);
        edge("BLACK at it", 0, () -> x.passage(0, 2, 6, 44000), 1, () -> x.passage(0, 3, 6, 44000));
        Checks.terms(x, 0, "toll 7;", 43200);
        edge("TERMS for it", 123, () -> x.passage(0, 2, 2, 44000), 7, () -> x.passage(0, 3, 2, 44000));
    }

    // "How many PASSAGES (what 0), BROKEN places (1), all its CHARGES (2), km of all (3), DOUBLE (4), GUESSED (5)"
    private static void partsOfTrack() {
        TollTags x = Worlds.rich();
        int[][] want = {{4, 0, 190, 19, 0, 2}, {2, 0, 27, 16, 1, 0}, {2, 1, 120, 12, 0, 0}};
        for (int box = 0; box < want.length; box++) {
            for (int what = 0; what < 6; what++) {
                int asked = what;
                int whose = box;
                Checks.due("track " + box + " " + what, want[box][what], () -> x.track(whose, asked, 1000));
            }
        }
        TollTags y = Worlds.small();
        for (int what = 0; what < 6; what++) {
            int asked = what;
            Checks.due("an empty track " + what, 0, () -> y.track(0, asked, 0));
        }
    }

    // "Of the i-th PASSAGE: 0 the ROAD, 1 its MINUTE, 2 CHARGE, 3 the SIGNAL (NONE: GUESSED), 4 whether DOUBLE (1),
    // 5 'gone' for it, 6 whether UNPAID (1)."
    private static void partsOfPassage() {
        TollTags x = Worlds.rich();
        int[][] want = {{0, 100, 70, 0, 0, 0, 0}, {1, 100, 30, NONE, 0, 7, 0}, {2, 100, 40, NONE, 0, 10, 0},
            {3, 280, 50, 1, 0, 14, 0}, {0, 110, 0, 2, 1, 0, 0}, {4, 700, 27, 5, 0, 0, 0}, {3, 500, 50, 3, 0, 0, 0},
            {0, 600, 70, 4, 0, 5, 1}};
        int[] box = {0, 0, 0, 0, 1, 1, 2, 2};
        int[] place = {0, 1, 2, 3, 0, 1, 0, 1};
        for (int i = 0; i < want.length; i++) {
            for (int what = 0; what < 7; what++) {
                int one = i;
                int asked = what;
                Checks.due("passage " + i + " " + what, want[i][what],
                    () -> x.passage(box[one], place[one], asked, 1000));
            }
        }
        TollTags y = Worlds.small();
        y.box(0, 0);
        y.signal(0, 0, 0);
        y.signal(1, 0, 0);
        y.black(1, true, 0);
        edge("a DOUBLE one is UNPAID, too", 1, () -> y.passage(1, 0, 6, 0), 0, () -> y.passage(0, 0, 6, 0));
    }

    // "NoSuchElementException: also no such PASSAGE."
    private static void passagesThereAre() {
        TollTags x = Worlds.rich();
        for (int what = 0; what < 7; what++) {
            int asked = what;
            Checks.due("the one behind the last, " + what, NO_SUCH, () -> x.passage(0, 4, asked, 1000));
            Checks.due("the one ahead of the first, " + what, NO_SUCH, () -> x.passage(0, -1, asked, 1000));
        }
        edge("the last", 3, () -> x.passage(0, 3, 0, 1000), NO_SUCH, () -> x.passage(0, 4, 0, 1000));
        edge("of an empty TRACK", NO_SUCH, () -> Worlds.small().passage(0, 0, 0, 0), 0, () -> x.passage(0, 0, 0, 1000));
        edge("as known at k", NO_SUCH, () -> x.passage(0, 0, 0, 989), 0, () -> x.passage(0, 0, 0, 990));
        Checks.due("MAX", NO_SUCH, () -> x.passage(0, Integer.MAX_VALUE, 0, 1000));
        Checks.due("MIN", NO_SUCH, () -> x.passage(0, Integer.MIN_VALUE, 0, 1000));
    }

    /** Two BOXES of LORRY 0, BOX 2 of LORRY 1, ROADS 0 and 3 with a GANTRY; SIGNALS as BOX, ROAD, t. */
    private static TollTags three(int... signals) {
        TollTags x = Worlds.lineAt(1000);
        x.lorry(2, 0);
        x.box(0, 0);
        x.box(1, 0);
        for (int i = 0; i + 2 < signals.length; i += 3) {
            x.signal(signals[i], signals[i + 1], signals[i + 2]);
        }
        return x;
    }

    private static int doubles(TollTags x) {
        return x.track(0, 4, 1000) + 10 * x.track(1, 4, 1000) + 100 * x.track(2, 4, 1000);
    }

    // "at most 'double' MINUTES ahead or behind, which is earlier, or of like t has a lesser number"
    private static void doubleByMinutes() {
        edge("30 ahead", 10, () -> doubles(three(0, 0, 100, 1, 0, 130)), 0, () -> doubles(three(0, 0, 100, 1, 0, 131)));
        edge("the earlier, though told last", 1, () -> doubles(three(0, 0, 130, 1, 0, 100)),
            0, () -> doubles(three(0, 0, 131, 1, 0, 100)));
        edge("of like t the lesser number", 10, () -> doubles(three(0, 0, 100, 1, 0, 100)),
            1, () -> doubles(three(1, 0, 100, 0, 0, 100)));
        edge("one MINUTE later", 10, () -> doubles(three(1, 0, 101, 0, 0, 100)),
            1, () -> doubles(three(1, 0, 100, 0, 0, 100)));
        edge("one of them only", 10, () -> doubles(three(0, 0, 100, 1, 0, 110)),
            11, () -> doubles(three(0, 0, 100, 1, 0, 110, 0, 0, 120)));
    }

    // "another SIGNAL, of another BOX of that LORRY"
    private static void doubleByBox() {
        edge("of another BOX", 10, () -> doubles(three(0, 0, 100, 1, 0, 110)), 0, () -> doubles(three(0, 0, 100, 0, 0, 110)));
        edge("of that LORRY", 10, () -> doubles(three(0, 0, 100, 1, 0, 110)), 0, () -> doubles(three(0, 0, 100, 2, 0, 110)));
        edge("alone", 0, () -> doubles(three(0, 0, 100)), 10, () -> doubles(three(0, 0, 100, 1, 0, 100)));
        TollTags x = three();
        x.provider(0);
        x.box(1, 1);
        x.signal(2, 0, 100);
        x.signal(3, 0, 100);
        edge("of any PROVIDER", 1, () -> x.track(3, 4, 1000), 0, () -> x.track(2, 4, 1000));
        edge("by a DOUBLE one", 1, () -> three(0, 0, 60, 1, 0, 90, 0, 0, 120).track(0, 4, 1000),
            0, () -> three(0, 0, 60, 1, 0, 91, 0, 0, 122).track(0, 4, 1000));
    }

    // "on that ROAD" as DECIDED; "GUESSED ones are never"
    private static void doubleByRoad() {
        edge("on that ROAD", 10, () -> doubles(three(0, 3, 100, 1, 3, 110)), 0, () -> doubles(three(0, 3, 100, 1, 0, 110)));
        TollTags x = three(0, 0, 100, 1, 3, 110);
        x.dispute(0);
        edge("as DECIDED", 0, () -> doubles(x), 10, () -> Checks.truth(x.decide(0, 2, 3)) * doubles(x));
        TollTags y = three(0, 0, 100, 1, 0, 110);
        y.dispute(1);
        edge("as DECIDED of this one", 10, () -> doubles(y), 0, () -> Checks.truth(y.decide(0, 2, 3)) * doubles(y));
        TollTags z = three(0, 0, 100, 0, 3, 110, 1, 0, 100, 1, 3, 110);
        edge("GUESSED ones never", 0, () -> z.passage(1, 1, 4, 1000), 1, () -> z.passage(1, 0, 4, 1000));
        edge("they are charged", 30, () -> z.passage(1, 1, 2, 1000), 0, () -> z.passage(1, 0, 2, 1000));
    }

    // "(TERMS of that ROAD's LAND for this one's t)"
    private static void doubleByTerms() {
        edge("double 5", 10, () -> doublesBy("double 5;", 0, 105), 0, () -> doublesBy("double 5;", 0, 106));
        edge("double 0", 10, () -> doublesBy("double 0;", 0, 100), 0, () -> doublesBy("double 0;", 0, 101));
        edge("for this one's t", 0, () -> doublesBy("double 5;", 110, 110), 10, () -> doublesBy("double 5;", 111, 110));
        edge("not for the other's t", 10, () -> doublesBy("double 50;", 101, 150),
            0, () -> doublesBy("double 50;", 151, 150));
        TollTags x = three(0, 0, 100, 1, 0, 140);
        x.land();
        Checks.terms(x, 1, "double 40;", 0);
        edge("of that ROAD's LAND", 0, () -> doubles(x), 10, () -> Checks.terms(x, 0, "double 40;", 0) + doubles(x));
    }

    private static int doublesBy(String text, int from, int second) {
        TollTags x = three(0, 0, 100, 1, 0, second);
        Checks.terms(x, 0, text, from);
        return doubles(x);
    }

    // "if there is another SIGNAL that COUNTS"
    private static void doubleByCounting() {
        TollTags x = three(0, 0, 100, 1, 0, 110);
        x.dispute(0);
        x.go(1);
        x.decide(0, 1, 0);
        edge("one that doesn't count", 0, () -> x.track(1, 4, 1001), 1, () -> x.track(1, 4, 1000));
        TollTags y = three(0, 0, 100, 1, 0, 110);
        y.go(1);
        y.back(0);
        edge("one TAKEN BACK", 0, () -> y.track(1, 4, 1001), 1, () -> y.track(1, 4, 1000));
        TollTags z = three(0, 0, 100, 1, 0, 110);
        z.go(1);
        Checks.terms(z, 0, "late 890;", 0);
        edge("one too late", 0, () -> z.track(1, 4, 1001), 1, () -> z.track(1, 4, 1000));
        TollTags late = three(1, 0, 110);
        late.go(1);
        late.signal(0, 0, 100);
        edge("one not known", 1, () -> late.track(1, 4, 1001), 0, () -> late.track(1, 4, 1000));
    }

    // "gone: km of all PASSAGES ahead of it on the BOX's TRACK, in that LAND"
    private static void goneOfLand() {
        TollTags x = Worlds.lineAt(1000);
        x.land();
        x.road(4, 0, 1, 11, 0, true);
        passing(x, 0, 1, 3, 2, 4, 3, 0, 4, 4, 500, 0, 501);
        int[] want = {0, 7, 10, 14, 0, 19, 11, 26};
        for (int i = 0; i < want.length; i++) {
            int place = i;
            Checks.due("gone for " + i, want[i], () -> x.passage(0, place, 5, 1000));
        }
        edge("in that LAND", 26, () -> x.passage(0, 7, 5, 1000), 11, () -> x.passage(0, 6, 5, 1000));
        TollTags y = three(0, 0, 100, 1, 0, 200, 1, 0, 400);
        edge("on the BOX's TRACK", 7, () -> y.passage(1, 1, 5, 1000), 0, () -> y.passage(1, 0, 5, 1000));
    }

    // "and MONTH" (30 DAYS)
    private static void goneOfMonth() {
        edge("MONTH 0", 7, () -> goneAt(43198, 43199), 0, () -> goneAt(43199, 43200));
        edge("MONTH 1", 7, () -> goneAt(43200, 86399), 0, () -> goneAt(43200, 86400));
        edge("MONTH 2", 7, () -> goneAt(86400, 129599), 0, () -> goneAt(86399, 129599));
        edge("the whole MONTH", 7, () -> goneAt(0, 43199), 0, () -> goneAt(0, 43200));
    }

    private static int goneAt(int first, int second) {
        TollTags x = Worlds.smallAt(first);
        passing(x, 0, first);
        x.go(second - first);
        passing(x, 0, second);
        return x.passage(0, 1, 5, second);
    }

    // "that aren't DOUBLE", "ahead of it"
    private static void goneAhead() {
        TollTags x = three(1, 0, 90, 0, 0, 100, 0, 0, 300);
        TollTags y = three(1, 0, 69, 0, 0, 100, 0, 0, 300);
        edge("DOUBLE ones aren't gone", 0, () -> x.passage(0, 1, 5, 1000), 7, () -> y.passage(0, 1, 5, 1000));
        TollTags z = three(0, 0, 100, 1, 0, 101, 1, 0, 90);
        edge("gone for a DOUBLE one", 7, () -> three(1, 0, 400, 0, 0, 600, 1, 0, 601).passage(1, 1, 5, 1000),
            0, () -> z.passage(0, 0, 5, 1000));
        edge("not itself", 0, () -> passing(Worlds.smallAt(9), 0, 5).passage(0, 0, 5, 9),
            7, () -> passing(Worlds.smallAt(9), 0, 5, 0, 5).passage(0, 1, 5, 9));
        TollTags w = three(0, 0, 100, 0, 3, 101, 0, 0, 300);
        edge("GUESSED ones are gone", 19, () -> w.passage(0, 4, 5, 1000), 14, () -> w.passage(0, 3, 5, 1000));
    }
}
