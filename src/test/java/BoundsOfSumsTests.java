/**
 * The edges of "==== 4." and "==== 5.": the black list, rates, what is due and UNPAID, what LANDS get of a PROVIDER that
 * falls, WAYS and cameras.
 */
public final class BoundsOfSumsTests {
    private static final int NONE = TollTags.NONE;
    private static final int NO_SUCH = Checks.NO_SUCH;
    private static final int ILLEGAL = Checks.ILLEGAL;
    private static final int MIN = Integer.MIN_VALUE;
    private static final int MAX = Integer.MAX_VALUE;

    private BoundsOfSumsTests() {
    }

    public static void main(String[] args) {
        blackFrom();
        blackToldLast();
        sixtyBlack();
        blackAtMinute();
        parts();
        rateToldLast();
        sixtyRates();
        dueCutDown();
        dueOfProvider();
        dueOfMonth();
        greatestSums();
        unpaidOfLand();
        enough();
        cutAndGiven();
        likeRemainders();
        fallsOfMonths();
        fallsOfProvider();
        numbersOfWays();
        roadsOfWays();
        sees();
        seesTwice();
        manyCameras();
        roadsOfCameras();
        fewestCameras();
        firstCameras();
        allSets();
        Checks.end();
    }

    private static void edge(String sentence, long want, Checks.Call edge, long wantBeside, Checks.Call beside) {
        Checks.edge(sentence, want, edge, wantBeside, beside);
    }

    /** small() with a SIGNAL at MINUTE 500, which costs 70. */
    private static TollTags passed() {
        TollTags x = Worlds.smallAt(500);
        x.signal(0, 0, 500);
        return x;
    }

    /** Whether the PASSAGE of passed() is UNPAID when this is told, m as on, -m - 1 as off. */
    private static int black(int... told) {
        TollTags x = passed();
        for (int m : told) {
            x.black(0, m >= 0, m >= 0 ? m : -1 - m);
        }
        return x.passage(0, 0, 6, 500);
    }

    private static int off(int m) {
        return -1 - m;
    }

    // "from a MINUTE m on (any)", "of those whose m isn't behind t"
    private static void blackFrom() {
        edge("m isn't behind t", 1, () -> black(500), 0, () -> black(501));
        edge("m 0", 1, () -> black(0), 0, () -> black());
        edge("off without", 0, () -> black(), 1, () -> black(499));
        edge("behind NOW", 0, () -> black(MAX), 1, () -> black(500));
        TollTags x = passed();
        edge("m below 0", 1, () -> x.black(0, true, MIN), 2, () -> x.black(0, true, -1));
        Checks.due("is ahead of all", 1, () -> x.passage(0, 0, 6, 500));
        TollTags y = passed();
        edge("m MAX", 1, () -> y.black(0, true, MAX), 2, () -> y.black(0, true, 129600));
        Checks.due("is behind all", 0, () -> y.passage(0, 0, 6, 500));
        TollTags z = Worlds.smallAt(129599);
        z.signal(0, 0, 129599);
        z.signal(0, 0, 129598);
        z.black(0, true, 129599);
        edge("the last MINUTE", 1, () -> z.passage(0, 1, 6, 129599), 0, () -> z.passage(0, 0, 6, 129599));
    }

    // "the one told last of those"
    private static void blackToldLast() {
        edge("off told last", 0, () -> black(400, off(400)), 1, () -> black(off(400), 400));
        edge("told last, though from an earlier m", 0, () -> black(400, off(0)), 1, () -> black(off(400), 0));
        edge("told last of those not behind t", 1, () -> black(400, off(501)), 0, () -> black(400, off(500)));
        edge("on again", 1, () -> black(400, off(450), 0), 0, () -> black(400, 0, off(450)));
        TollTags x = passed();
        x.box(0, 0);
        x.signal(1, 0, 500);
        x.black(1, true, 0);
        edge("a BOX", 0, () -> x.passage(0, 0, 6, 500), 1, () -> x.passage(1, 0, 6, 500));
    }

    // "how many times something was told. NONE: 60 times already."
    private static void sixtyBlack() {
        TollTags x = passed();
        x.box(0, 0);
        for (int i = 1; i < 60; i++) {
            int told = i;
            Checks.due("told", told, () -> x.black(told % 2, false, 0));
        }
        edge("60 times", 60, () -> x.black(0, true, 0), NONE, () -> x.black(0, false, 0));
        edge("the 60th holds", 1, () -> x.passage(0, 0, 6, 500), NONE, () -> x.black(1, true, 0));
        Checks.due("NONE: nothing is told", 1, () -> x.passage(0, 0, 6, 500));
        TollTags y = passed();
        Checks.due("refused", NO_SUCH, () -> y.black(1, true, 0));
        edge("that was not told", 1, () -> y.black(0, false, 0), 2, () -> y.black(0, false, 0));
    }

    // "A PASSAGE of a BOX that is BLACK at its MINUTE is UNPAID, others the PROVIDER owes."
    private static void blackAtMinute() {
        TollTags x = Worlds.lineAt(900);
        x.signal(0, 0, 100);
        x.signal(0, 3, 200);
        x.black(0, true, 101);
        edge("at its MINUTE", 1, () -> x.passage(0, 3, 6, 900), 0, () -> x.passage(0, 2, 6, 900));
        edge("UNPAID or owed", 50, () -> x.unpaid(0, 0, 900), 140, () -> x.due(0, 0, 0, 900));
        x.black(0, true, 100);
        edge("all UNPAID", 190, () -> x.unpaid(0, 0, 900), 0, () -> x.due(0, 0, 0, 900));
        x.black(0, false, 0);
        edge("all owed", 0, () -> x.unpaid(0, 0, 900), 190, () -> x.due(0, 0, 0, 900));
    }

    private static long dueBy(int parts) {
        TollTags x = passed();
        x.rate(0, 0, parts);
        return x.due(0, 0, 0, 500);
    }

    // "parts of 1000 (1 to 99999) of a LAND's coin in a MONTH"; "False: no such MONTH, not as told"
    private static void parts() {
        edge("parts 1", 0, () -> dueBy(1), 70, () -> dueBy(0));
        edge("parts 99999", 6999, () -> dueBy(99999), 70, () -> dueBy(100000));
        edge("1000 without", 70, () -> passed().due(0, 0, 0, 500), 69, () -> dueBy(999));
        edge("told: 1", 1, () -> Checks.truth(passed().rate(0, 0, 1)), 0, () -> Checks.truth(passed().rate(0, 0, 0)));
        edge("told: 99999", 1, () -> Checks.truth(passed().rate(0, 0, 99999)), 0,
            () -> Checks.truth(passed().rate(0, 0, 100000)));
        edge("MONTH 2", 1, () -> Checks.truth(passed().rate(0, 2, 5)), 0, () -> Checks.truth(passed().rate(0, 3, 5)));
        edge("MONTH 0", 1, () -> Checks.truth(passed().rate(0, 0, 5)), 0, () -> Checks.truth(passed().rate(0, -1, 5)));
    }

    // "the one told last (1000 without)", of a LAND, in a MONTH
    private static void rateToldLast() {
        TollTags x = passed();
        x.land();
        x.rate(0, 0, 2000);
        edge("told last", 140, () -> x.due(0, 0, 0, 500), 210,
            () -> Checks.truth(x.rate(0, 0, 3000)) * x.due(0, 0, 0, 500));
        x.rate(1, 0, 4000);
        x.rate(0, 1, 4000);
        x.rate(0, 2, 4000);
        edge("of a LAND in a MONTH", 210, () -> x.due(0, 0, 0, 500), 70,
            () -> Checks.truth(x.rate(0, 0, 1000)) * x.due(0, 0, 0, 500));
        x.rate(0, 0, 0);
        Checks.due("what was refused isn't told", 70, () -> x.due(0, 0, 0, 500));
    }

    // "False: 60 were told"
    private static void sixtyRates() {
        TollTags x = passed();
        x.land();
        for (int i = 0; i < 59; i++) {
            int told = i;
            Checks.due("told", 1, () -> Checks.truth(x.rate(told % 2, told % 3, 5000)));
        }
        x.rate(0, 3, 1);
        edge("60", 1, () -> Checks.truth(x.rate(0, 0, 2000)), 0, () -> Checks.truth(x.rate(0, 0, 3000)));
        edge("the 60th holds", 140, () -> x.due(0, 0, 0, 500), 0, () -> Checks.truth(x.rate(1, 1, 1)));
    }

    // "the sum of CHARGES it owes, times the RATE, by 1000, cut down"
    private static void dueCutDown() {
        edge("cut down", 69, () -> dueBy(999), 70, () -> dueBy(1000));
        edge("below 1", 0, () -> dueBy(14), 1, () -> dueBy(15));
        TollTags x = passed();
        x.signal(0, 0, 500);
        x.rate(0, 0, 995);
        // 140 times 995 by 1000 is 139.3; 70 alone would be 69.
        edge("the sum is cut, not each", 139, () -> x.due(0, 0, 0, 500), 69, () -> dueBy(995));
    }

    // "DUE of a PROVIDER to a LAND"
    private static void dueOfProvider() {
        TollTags x = Worlds.rich();
        // Of LAND 0 at 1500 parts: PROVIDER 0 owes 190; PROVIDER 1 owes 50, and 70 are UNPAID. LAND 1: 27.
        edge("of a PROVIDER", 285, () -> x.due(0, 0, 0, 1000), 75, () -> x.due(1, 0, 0, 1000));
        edge("to a LAND", 0, () -> x.due(0, 1, 0, 1000), 27, () -> x.due(1, 1, 0, 1000));
        edge("UNPAID isn't owed", 70, () -> x.unpaid(0, 0, 1000), 0, () -> x.unpaid(1, 0, 1000));
        edge("DOUBLE costs nothing", 27, () -> x.due(1, 1, 0, 1000), 75, () -> x.due(1, 0, 0, 1000));
    }

    // "for a MONTH" (30 DAYS, 0 to 2)
    private static void dueOfMonth() {
        edge("the last MINUTE of MONTH 0", 70, () -> dueAt(43199, 0), 0, () -> dueAt(43200, 0));
        edge("the first of MONTH 1", 70, () -> dueAt(43200, 1), 0, () -> dueAt(43199, 1));
        edge("the last of MONTH 1", 70, () -> dueAt(86399, 1), 0, () -> dueAt(86400, 1));
        edge("the first of MONTH 2", 70, () -> dueAt(86400, 2), 0, () -> dueAt(86399, 2));
        edge("the last of all", 70, () -> dueAt(129599, 2), 0, () -> dueAt(129599, 0));
        edge("the first of all", 70, () -> dueAt(0, 0), 0, () -> dueAt(0, 2));
        edge("no MONTH 3", 70, () -> dueAt(129599, 2), NO_SUCH, () -> dueAt(129599, 3));
        edge("no MONTH -1", 70, () -> dueAt(0, 0), NO_SUCH, () -> dueAt(0, -1));
    }

    private static long dueAt(int t, int month) {
        TollTags x = Worlds.smallAt(t);
        x.signal(0, 0, t);
        return x.due(0, 0, month, t);
    }

    private static void greatestSums() {
        TollTags x = Worlds.small();
        Checks.terms(x, 0, "toll 99999;", 0);
        for (int i = 0; i < 300; i++) {
            x.signal(0, 0, 0);
        }
        edge("300 at 99999", 29999700, () -> x.due(0, 0, 0, 0), 0, () -> x.unpaid(0, 0, 0));
        x.rate(0, 0, 99999);
        edge("at 99999 parts, beyond an int", 2999940000L, () -> x.due(0, 0, 0, 0),
            1000, () -> x.falls(0, 0, 0));
        x.black(0, true, 0);
        edge("all UNPAID, without the RATE", 29999700, () -> x.unpaid(0, 0, 0), 0, () -> x.due(0, 0, 0, 0));
    }

    // "The sum of CHARGES of a LAND for a MONTH that are UNPAID."
    private static void unpaidOfLand() {
        TollTags x = Worlds.rich();
        x.black(0, true, 0);
        edge("of all BOXES", 260, () -> x.unpaid(0, 0, 1000), 0, () -> x.unpaid(1, 0, 1000));
        x.black(1, true, 700);
        edge("of a LAND", 27, () -> x.unpaid(1, 0, 1000), 260, () -> x.unpaid(0, 0, 1000));
        edge("for MONTH 0", 70, () -> unpaidAt(43199, 0), 0, () -> unpaidAt(43200, 0));
        edge("for MONTH 1", 70, () -> unpaidAt(43200, 1), 0, () -> unpaidAt(43199, 1));
        edge("for MONTH 2", 70, () -> unpaidAt(86400, 2), 0, () -> unpaidAt(86399, 2));
        edge("the last MINUTE", 70, () -> unpaidAt(129599, 2), NO_SUCH, () -> unpaidAt(129599, 3));
        edge("the first MINUTE", 70, () -> unpaidAt(0, 0), NO_SUCH, () -> unpaidAt(0, -1));
    }

    private static int unpaidAt(int t, int month) {
        TollTags x = Worlds.smallAt(t);
        x.signal(0, 0, t);
        x.black(0, true, t);
        return x.unpaid(0, month, t);
    }

    /** What the LANDS get, as one number of two digits each, if they are owed so many and the deposit is so much. */
    private static long gets(int deposit, int... owed) {
        TollTags x = new TollTags();
        x.provider(deposit);
        x.lorry(2, 0);
        x.box(0, 0);
        for (int land = 0; land < owed.length; land++) {
            x.land();
            Checks.terms(x, land, "toll " + owed[land] + ";", 0);
            x.signal(0, x.road(0, 1, land, 1, 0, true), 0);
        }
        long all = 0;
        for (int land = 0; land < owed.length; land++) {
            all = all * 100 + x.falls(0, land, 0);
        }
        return all;
    }

    // "if its deposit is enough, each gets that"
    private static void enough() {
        edge("just enough", 102030, () -> gets(60, 10, 20, 30), 102029, () -> gets(59, 10, 20, 30));
        edge("more than enough", 102030, () -> gets(61, 10, 20, 30), 102029, () -> gets(59, 10, 20, 30));
        edge("a million", 102030, () -> gets(1000000, 10, 20, 30), 0, () -> gets(0, 10, 20, 30));
        edge("nothing owed", 0, () -> gets(0, 0, 0), 1, () -> gets(1, 0, 1));
        edge("nothing owed, a deposit", 0, () -> gets(5, 0, 0), 500, () -> gets(5, 5, 0));
        edge("one LAND", 9, () -> gets(9, 10), 10, () -> gets(10, 10));
    }

    // "each gets the deposit times that by all of it, cut down, and those that lost most by cutting one more each (the
    // greatest remainder first), until the deposit is gone"
    private static void cutAndGiven() {
        // 59 of 60: 9 50/60, 19 40/60, 29 30/60: two are left.
        edge("two left", 102029, () -> gets(59, 10, 20, 30), 101929, () -> gets(58, 10, 20, 30));
        // 1 of 60: 10/60, 20/60, 30/60: one is left. 2 of 60: 20/60, 40/60, 1.
        edge("one left", 1, () -> gets(1, 10, 20, 30), 101, () -> gets(2, 10, 20, 30));
        // 3 of 60: 30/60, 1, 1 30/60: one is left, of like ones for LAND 0.
        edge("of like ones", 10101, () -> gets(3, 10, 20, 30), 10102, () -> gets(4, 10, 20, 30));
        // 30 of 60: 5, 10, 15: none is left. 31 of 60: 5 10/60, 10 20/60, 15 30/60.
        edge("none left", 51015, () -> gets(30, 10, 20, 30), 51016, () -> gets(31, 10, 20, 30));
        edge("of four", 3020100, () -> gets(6, 3, 2, 1, 0), 2020100, () -> gets(5, 3, 2, 1, 0));
        for (int deposit = 0; deposit <= 40; deposit++) {
            long all = gets(deposit, 7, 0, 13, 1, 9);
            long sum = 0;
            for (long rest = all; rest > 0; rest /= 100) {
                sum += rest % 100;
            }
            Checks.same("until the deposit is gone: " + deposit, Math.min(deposit, 30), sum);
        }
    }

    // "of like ones the lesser LAND"
    private static void likeRemainders() {
        edge("one of two", 100, () -> gets(1, 5, 5), 101, () -> gets(2, 5, 5));
        edge("two of four", 1010000, () -> gets(2, 5, 5, 5, 5), 1010100, () -> gets(3, 5, 5, 5, 5));
        edge("a greater one ahead of a lesser LAND", 1, () -> gets(1, 5, 6), 100, () -> gets(1, 6, 5));
        edge("LANDS that are owed nothing get none", 100, () -> gets(1, 0, 5, 5), 101, () -> gets(2, 0, 5, 5));
        edge("nine LANDS", 1L, () -> gets(8, 5, 5, 5, 5, 5, 5, 5, 5, 5) % 10000 / 100, 0L,
            () -> gets(8, 5, 5, 5, 5, 5, 5, 5, 5, 5) % 100);
    }

    // "what it owes each LAND is the sum of DUE of all MONTHS"
    private static void fallsOfMonths() {
        TollTags x = passed();
        x.rate(0, 0, 999);
        x.go(43200 - 500);
        x.signal(0, 0, 43200);
        x.rate(0, 1, 999);
        // 69 and 69, not 139 of 140.
        edge("each MONTH cut down by itself", 138, () -> x.falls(0, 0, 43200), 69, () -> x.due(0, 0, 1, 43200));
        x.go(86400 - 43200);
        x.signal(0, 0, 86400);
        edge("all three MONTHS", 208, () -> x.falls(0, 0, 86400), 138, () -> x.falls(0, 0, 86399));
    }

    private static void fallsOfProvider() {
        TollTags x = Worlds.rich();
        // PROVIDER 1 has 50 and owes 75 and 27: 36 78/102 and 13 24/102.
        edge("one is left", 37, () -> x.falls(1, 0, 1000), 13, () -> x.falls(1, 1, 1000));
        edge("PROVIDER 0 has 1000", 285, () -> x.falls(0, 0, 1000), 0, () -> x.falls(0, 1, 1000));
        edge("as known at k, ahead of the RATE", 190, () -> x.falls(0, 0, 999), 285, () -> x.falls(0, 0, 1000));
    }

    /** An object with so many ROADS. */
    private static TollTags roads(int many) {
        TollTags x = new TollTags();
        x.land();
        for (int i = 0; i < many; i++) {
            x.road(0, 1, 0, 1, 0, i % 2 == 0);
        }
        return x;
    }

    private static long row(int... roads) {
        long row = 0;
        for (int i = 0; i < roads.length; i++) {
            row |= (long) roads[i] << 6 * i;
        }
        return row;
    }

    // "WAYS, at most 20: 1 to 6 ROADS, LORRIES a DAY (1 to 999)"
    private static void numbersOfWays() {
        edge("1 ROAD", 0, () -> roads(1).way(1, 0, 1), NONE, () -> roads(1).way(0, 0, 1));
        edge("6 ROADS", 0, () -> roads(1).way(6, 0, 1), NONE, () -> roads(1).way(7, 0, 1));
        edge("no less than none", 0, () -> roads(1).way(2, 0, 1), NONE, () -> roads(1).way(-1, 0, 1));
        edge("not MIN", 0, () -> roads(1).way(5, 0, 1), NONE, () -> roads(1).way(MIN, 0, 1));
        edge("not MAX", 0, () -> roads(1).way(3, 0, 1), NONE, () -> roads(1).way(MAX, 0, 1));
        edge("1 LORRY", 0, () -> roads(1).way(1, 0, 1), NONE, () -> roads(1).way(1, 0, 0));
        edge("999 LORRIES", 0, () -> roads(1).way(1, 0, 999), NONE, () -> roads(1).way(1, 0, 1000));
        edge("LORRIES below 0", 0, () -> roads(1).way(1, 0, 2), NONE, () -> roads(1).way(1, 0, MIN));
        TollTags x = roads(1);
        for (int i = 0; i < 19; i++) {
            x.way(1, 0, 1);
        }
        edge("20 WAYS", 19, () -> x.way(1, 0, 1), NONE, () -> x.way(1, 0, 1));
        edge("a 21st isn't seen", 20, () -> x.sees(1), 20 * 999, () -> crowd().sees(1));
    }

    private static TollTags crowd() {
        TollTags x = roads(1);
        for (int i = 0; i < 20; i++) {
            x.way(6, 0, 999);
        }
        return x;
    }

    // "roads: ROAD i in bits 6 i to 6 i + 5"; "NoSuchElementException (behind NONE): no such ROAD among them"
    private static void roadsOfWays() {
        for (int i = 0; i < 6; i++) {
            int place = i;
            long last = 39L << 6 * place;
            edge("ROAD 39 at " + i, 0, () -> roads(40).way(6, last, 1), NO_SUCH, () -> roads(39).way(6, last, 1));
            edge("bits of " + i, NO_SUCH, () -> roads(40).way(place + 1, 63L << 6 * place, 1),
                0, () -> roads(40).way(place + 1, 31L << 6 * place, 1));
            edge("ROAD 40 at " + i, NO_SUCH, () -> roads(40).way(6, 40L << 6 * place, 1),
                0, () -> roads(40).way(6, 32L << 6 * place, 1));
        }
        edge("so many of them only", 0, () -> roads(3).way(2, row(1, 2, 3), 1), NO_SUCH,
            () -> roads(3).way(3, row(1, 2, 3), 1));
        edge("no ROAD at all", NO_SUCH, () -> roads(0).way(1, 0, 1), 0, () -> roads(1).way(1, 0, 1));
        edge("NONE first", NONE, () -> roads(0).way(1, 0, 0), NO_SUCH, () -> roads(0).way(1, 0, 1));
        TollTags x = roads(12);
        Checks.due("refused", NO_SUCH, () -> x.way(2, row(3, 12), 7));
        edge("and none came", 0, () -> x.way(6, row(0, 2, 4, 6, 8, 10), 7), 7, () -> x.sees(1 << 10));
        edge("the last of six", 7, () -> x.sees(1 << 10), 0, () -> x.sees(1 << 3));
    }

    // "LORRIES of WAYS that have some ROAD of a set (bits of ROADS 0 to 11; others count for nothing)"
    private static void sees() {
        TollTags x = roads(40);
        for (int road = 0; road < 20; road++) {
            x.way(1, road, 1 + road);
        }
        for (int road = 0; road < 32; road++) {
            int bit = 1 << road;
            Checks.due("bit " + road, road < 12 ? 1 + road : 0, () -> x.sees(bit));
        }
        edge("ROADS 0 to 11", 78, () -> x.sees(4095), 66, () -> x.sees(2047));
        edge("no ROAD", 0, () -> x.sees(0), 1, () -> x.sees(1));
        edge("others count for nothing", 78, () -> x.sees(-1), 0, () -> x.sees(-4096));
        edge("ROADS 11 and 12", 12, () -> x.sees(1 << 11 | 1 << 12), 0, () -> x.sees(1 << 12));
        edge("the highest bit", 0, () -> x.sees(MIN), 1, () -> x.sees(MIN + 1));
    }

    // "some may come twice"; "WAYS that have some of them": each once
    private static void seesTwice() {
        TollTags x = roads(13);
        x.way(6, row(3, 3, 5, 5, 3, 12), 9);
        edge("once for two of its ROADS", 9, () -> x.sees(1 << 3 | 1 << 5), 0, () -> x.sees(1 << 4));
        x.way(1, 3, 4);
        edge("both WAYS", 13, () -> x.sees(1 << 3), 9, () -> x.sees(1 << 5));
        edge("a camera for both", 1 << 3, () -> x.cameras(2), 0, () -> x.cameras(0));
    }

    // "IllegalArgumentException: m is not 0 to 12"; "the set of at most m"
    private static void manyCameras() {
        TollTags x = roads(12);
        for (int road = 0; road < 12; road++) {
            x.way(1, road, 12 - road);
        }
        for (int m = 0; m <= 12; m++) {
            int most = m;
            Checks.due("at most " + m, (1 << m) - 1, () -> x.cameras(most));
        }
        edge("m 0", 0, () -> x.cameras(0), ILLEGAL, () -> x.cameras(-1));
        edge("m 12", 4095, () -> x.cameras(12), ILLEGAL, () -> x.cameras(13));
        edge("m MAX", ILLEGAL, () -> x.cameras(MAX), 2047, () -> x.cameras(11));
        edge("m MIN", ILLEGAL, () -> x.cameras(MIN), 1, () -> x.cameras(1));
    }

    // "on ROADS 0 to 11 (those there are)"
    private static void roadsOfCameras() {
        edge("ROAD 11", 1 << 11, () -> oneWay(11).cameras(12), 0, () -> oneWay(12).cameras(12));
        edge("ROAD 0", 1, () -> oneWay(0).cameras(1), 0, () -> oneWay(39).cameras(1));
        edge("those there are", 1, () -> crowd().cameras(12), 0, () -> roads(1).cameras(12));
        edge("without ROADS", 0, () -> new TollTags().cameras(12), 1, () -> crowd().cameras(1));
        TollTags x = roads(40);
        x.way(2, row(12, 4), 5);
        edge("ROAD 4 of a WAY with ROAD 12", 1 << 4, () -> x.cameras(1), 1 << 4 | 1 << 5,
            () -> x.cameras(2 + x.way(1, 5, 1)));
    }

    private static TollTags oneWay(int road) {
        TollTags x = roads(40);
        x.way(1, road, 5);
        return x;
    }

    // "with the greatest sum", "of like ones the fewest ROADS"
    private static void fewestCameras() {
        TollTags x = roads(12);
        x.way(3, row(1, 2, 3), 10);
        edge("one is enough", 1 << 1, () -> x.cameras(12), 1 << 1 | 1 << 4, () -> x.cameras(12 + 0 * x.way(1, 4, 1)));
        TollTags y = roads(3);
        y.way(2, row(0, 1), 5);
        y.way(2, row(1, 2), 5);
        y.way(1, 0, 4);
        y.way(1, 2, 4);
        edge("ROAD 1 for one, ROADS 0 and 2 for two", 2, () -> y.cameras(1), 5, () -> y.cameras(2));
        edge("no third", 5, () -> y.cameras(3), 7, () -> y.cameras(3 + 0 * y.way(1, 1, 1)));
        TollTags z = roads(4);
        z.way(1, 0, 9);
        z.way(1, 1, 10);
        edge("the greatest sum, not the first ROAD", 2, () -> z.cameras(1), 3, () -> z.cameras(2));
    }

    // "of like ones ROAD 0 rather in it than not, and so on"
    private static void firstCameras() {
        TollTags x = roads(12);
        x.way(2, row(11, 0), 5);
        edge("ROAD 0 rather than 11", 1, () -> x.cameras(1), 1 << 11, () -> x.cameras(1 + 0 * x.way(1, 11, 1)));
        TollTags y = roads(12);
        y.way(2, row(5, 3), 5);
        edge("ROAD 3 rather than 5", 1 << 3, () -> y.cameras(3), 1 << 5, () -> y.cameras(1 + 0 * y.way(1, 5, 1)));
        TollTags z = roads(12);
        z.way(1, 0, 7);
        z.way(2, row(9, 8), 7);
        z.way(2, row(8, 7), 1);
        z.way(2, row(9, 6), 1);
        edge("and so on: 0 and 8 rather than 0 and 9", 1 | 1 << 8, () -> z.cameras(2), 1 << 8, () -> z.cameras(1));
        // Of like sets {0, 3} and {1, 2} the one with ROAD 0.
        TollTags w = roads(4);
        w.way(2, row(0, 1), 5);
        w.way(2, row(2, 3), 5);
        w.way(2, row(0, 2), 5);
        w.way(2, row(1, 3), 5);
        edge("0 and 3 rather than 1 and 2", 1 | 1 << 3, () -> w.cameras(2), 1, () -> w.cameras(1));
    }

    /** THE BEST by looking at all sets in the order in which the document prefers them. */
    private static void allSets() {
        int[][] ways = {{0, 4, 9}, {1, 5}, {2, 11}, {3, 4}, {6, 7, 8}, {9, 10}, {10, 11}, {1, 2, 3}, {5, 6}, {7}, {8, 0}};
        TollTags x = roads(12);
        for (int i = 0; i < ways.length; i++) {
            x.way(ways[i].length, row(ways[i]), 10 + i * 7 % 5);
            for (int m = 0; m <= 12; m += i == ways.length - 1 ? 1 : 6) {
                int most = m;
                Checks.due("best of " + m + " with WAYS 0 to " + i, best(ways, i + 1, m), () -> x.cameras(most));
            }
        }
    }

    private static int best(int[][] ways, int many, int m) {
        int best = 0;
        for (int set = 1; set < 4096; set++) {
            int gain = seen(ways, many, set) - seen(ways, many, best);
            int more = Integer.bitCount(set) - Integer.bitCount(best);
            boolean first = Integer.reverse(set) + MIN > Integer.reverse(best) + MIN;
            if (Integer.bitCount(set) <= m && (gain > 0 || gain == 0 && (more < 0 || more == 0 && first))) {
                best = set;
            }
        }
        return best;
    }

    private static int seen(int[][] ways, int many, int set) {
        int sum = 0;
        for (int i = 0; i < many; i++) {
            boolean some = false;
            for (int road : ways[i]) {
                some |= (set >> road & 1) != 0;
            }
            sum += some ? 10 + i * 7 % 5 : 0;
        }
        return sum;
    }
}
