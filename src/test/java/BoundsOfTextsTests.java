/**
 * The edges of "==== 3." and of feed(), terms(), fault(), attempt(), more(): how long a text may be, which byte belongs
 * to which TOKEN, the FAULTS and their places, what is cut down or wraps, and which TERMS count.
 */
public final class BoundsOfTextsTests {
    private static final int NONE = TollTags.NONE;
    private static final int ILLEGAL = Checks.ILLEGAL;
    private static final int MIN = Integer.MIN_VALUE;
    private static final int MAX = Integer.MAX_VALUE;
    private static final int BLANKS = 0x20202020;

    private BoundsOfTextsTests() {
    }

    public static void main(String[] args) {
        twentyBytes();
        tapeOf400();
        firstBytesOfTape();
        emptyThen();
        fourTexts();
        minutesOfTexts();
        latestBeginning();
        words();
        numbers();
        everyByte();
        blanks();
        clauses();
        lastOfSort();
        grammar();
        leftToRight();
        cutsAndWraps();
        truths();
        misplaced();
        endsTooSoon();
        numbersTooLong();
        seventeenthClause();
        sevenDeep();
        seventhNot();
        noValues();
        firstFault();
        placeOfLatest();
        tollsCutDown();
        freeAndDouble();
        hours();
        weekdays();
        valuesOfThings();
        goneAndGuessed();
        tries();
        moreOfLatest();
        Checks.end();
    }

    /** What reading a text gives: 0, or the FAULT times 1000 and its place. */
    private static long read(String text) {
        TollTags x = new TollTags();
        x.land();
        int fault = Checks.terms(x, 0, text, 0);
        int place = x.fault();
        int tried = Checks.attempt(x, 0, text, 0);
        boolean alike = tried == fault && x.fault() == place && (fault == 0) == (place == NONE);
        return !alike ? -1 : fault == 0 ? 0 : fault * 1000 + place;
    }

    private static void reads(String text, long want) {
        Checks.same("reading " + text, want, read(text));
    }

    /** A text that is read as it should be, or has a FAULT, and one just beside it. */
    private static void edge(String sentence, String text, long want, String beside, long wantBeside) {
        Checks.edge(sentence + " [" + text + "|" + beside + "]", want, () -> read(text), wantBeside, () -> read(beside));
    }

    /** What a SIGNAL at MINUTE t costs by a text, on a ROAD of 7 km and sort 2, of 5 axles and fumes 3. */
    private static long cost(String text, int t) {
        TollTags x = Worlds.smallAt(t);
        x.signal(0, 0, t);
        int fault = Checks.terms(x, 0, text, 0);
        return fault == 0 ? x.passage(0, 0, 2, t) : -1000 * fault - x.fault();
    }

    private static void costs(String sentence, String text, long want, String beside, long wantBeside) {
        Checks.edge(sentence + " [" + text + "|" + beside + "]", want, () -> cost(text, 3000),
            wantBeside, () -> cost(beside, 3000));
    }

    // "Twenty bytes come behind the tape, of each number the highest first"
    private static void twentyBytes() {
        TollTags x = new TollTags();
        x.land();
        byte[] text = Checks.bytes("toll 1+2*3-4<5=late ");
        for (int i = 0; i < 20; i++) {
            byte[] changed = text.clone();
            changed[i] = (byte) 0x80;
            Checks.feed(x, changed);
            x.terms(0, 20, 0);
            Checks.same("byte " + i + " of twenty", Math.min(i < 4 ? 0 : i, 14), x.fault());
        }
        Checks.feed(x, text);
        Checks.same("twenty more stand behind them", 40, x.feed(-1, -1, -1, -1, -1));
        x.terms(0, 40, 0);
        Checks.same("which are read behind them", 14, x.fault());
        Checks.feed(x, Checks.bytes("toll                "));
        x.feed(0x20203100, 0, 0, 0, MIN);
        Checks.edge("the first of the second twenty", 1, () -> x.terms(0, 40, 0), 23, x::fault);
    }

    // "how many it has; NONE, and none come, if it would have more than 400"
    private static void tapeOf400() {
        TollTags x = new TollTags();
        x.land();
        for (int many = 20; many < 400; many += 20) {
            int now = many;
            Checks.due("how many it has", now, () -> x.feed(BLANKS, BLANKS, BLANKS, BLANKS, BLANKS));
        }
        Checks.edge("400 and not more", 400, () -> x.feed(BLANKS, BLANKS, BLANKS, BLANKS, BLANKS),
            NONE, () -> x.feed('x', 'x', 'x', 'x', 'x'));
        Checks.due("none came", 400, () -> x.count(9));
        Checks.edge("texts of at most 400 bytes", ILLEGAL, () -> x.terms(0, 401, 0), 0, () -> x.terms(0, 400, 0));
        Checks.due("room again", 20, () -> x.feed(0, 0, 0, 0, 0));
        String sum = "toll " + "1+".repeat(196);
        edge("the 400th byte is read", sum + "22;", 0, sum + "22 ", 1400);
        edge("the first of 400, too", "toll 1;" + " ".repeat(393), 0, "Toll 1;" + " ".repeat(393), 1000);
        Checks.same("a text of 400 bytes as steps", 218, cost(sum + "22;", 0));
    }

    // "The tape's first n bytes". "IllegalArgumentException: the tape has not so many, n below 0"
    private static void firstBytesOfTape() {
        int[] want = {0, 1000, 1000, 1000, 1004, 1005, 1006, 1007, 0, 0, 0, 1010};
        for (int n = 0; n < want.length; n++) {
            TollTags x = new TollTags();
            x.land();
            Checks.feed(x, Checks.bytes("toll 55;  x ;x"));
            int fault = x.terms(0, n, 0);
            Checks.same("the first " + n, want[n], fault == 0 ? 0 : fault * 1000 + x.fault());
        }
        int[] fed = {0, 20, 40, 400};
        for (int many : fed) {
            Checks.edge("the tape has so many: " + many, 0, () -> fedWith(many).terms(0, many, 0),
                ILLEGAL, () -> fedWith(many).terms(0, many + 1, 0));
            Checks.edge("a TRY of so many: " + many, 0, () -> fedWith(many).attempt(0, many, 0),
                ILLEGAL, () -> fedWith(many).attempt(0, many + 1, 0));
            Checks.edge("n 0", 0, () -> fedWith(many).terms(0, 0, 0), ILLEGAL, () -> fedWith(many).terms(0, -1, 0));
            Checks.edge("n 0 tried", 0, () -> fedWith(many).attempt(0, 0, 0),
                ILLEGAL, () -> fedWith(many).attempt(0, -1, 0));
            Checks.due("n MAX", ILLEGAL, () -> fedWith(many).terms(0, MAX, 0));
            Checks.due("n MIN", ILLEGAL, () -> fedWith(many).attempt(0, MIN, 0));
        }
    }

    private static TollTags fedWith(int many) {
        TollTags x = new TollTags();
        x.land();
        for (int i = 0; i < many; i += 20) {
            x.feed(BLANKS, BLANKS, BLANKS, BLANKS, BLANKS);
        }
        return x;
    }

    // "(it is empty then)"; "(nothing changes)"
    private static void emptyThen() {
        for (boolean tried : new boolean[] {false, true}) {
            Checks.edge("empty behind 0", 0, () -> left(tried, 0, 0), 20, () -> left(tried, 21, 0));
            Checks.edge("empty behind a FAULT", 0, () -> left(tried, 3, 0), 20, () -> left(tried, -1, 0));
            Checks.edge("empty behind 9", 0, () -> left(tried, 7, -1), 20, () -> left(tried, 21, -1));
            Checks.edge("empty behind 20", 0, () -> left(tried, 20, 0), 20, () -> left(tried, MIN, 0));
        }
        TollTags x = fedWith(40);
        x.terms(0, 20, 0);
        Checks.edge("bytes behind the first n are gone, too", ILLEGAL, () -> x.terms(0, 1, 0), 0, () -> x.terms(0, 0, 0));
    }

    /** How many bytes the tape has behind a text of the first n of twenty bytes. */
    private static int left(boolean tried, int n, int from) {
        TollTags x = new TollTags();
        x.land();
        Checks.feed(x, Checks.bytes("toll 5;"));
        Checks.outcome(() -> tried ? x.attempt(0, n, from) : x.terms(0, n, from));
        return x.count(9);
    }

    // "texts, at most 4 a LAND"; "9: there are 4 of it"
    private static void fourTexts() {
        TollTags x = new TollTags();
        x.land();
        x.land();
        for (int i = 0; i < 3; i++) {
            Checks.due("text " + i, 0, () -> Checks.terms(x, 0, "toll 1;", 0));
        }
        Checks.due("one with a FAULT is none of them", 1, () -> Checks.terms(x, 0, "toll 1", 0));
        Checks.due("one of no MINUTE is none of them", 9, () -> Checks.terms(x, 0, "toll 1;", -1));
        Checks.due("one tried is none of them", 0, () -> Checks.attempt(x, 0, "toll 1;", 0));
        Checks.edge("at most 4", 0, () -> Checks.terms(x, 0, "toll 1;", 0), 9, () -> Checks.terms(x, 0, "toll 1;", 0));
        Checks.edge("a LAND", 9, () -> Checks.terms(x, 0, "", 0), 0, () -> Checks.terms(x, 1, "", 0));
        Checks.edge("9 ahead of a FAULT", 9, () -> Checks.terms(x, 0, "toll 1", 0),
            1, () -> Checks.terms(x, 1, "toll 1", 0));
        Checks.edge("a fifth is tried", 0, () -> Checks.attempt(x, 0, "toll 1;", 0),
            9, () -> Checks.terms(x, 0, "toll 1;", 0));
    }

    // "from a MINUTE on (0 to 129599)"; "9: the MINUTE is not as told (ahead of a FAULT)"
    private static void minutesOfTexts() {
        for (String text : new String[] {"toll 1;", ""}) {
            Checks.edge("from 0 on", 0, () -> told(false, text, 0), 9, () -> told(false, text, -1));
            Checks.edge("from 129599 on", 0, () -> told(false, text, 129599), 9, () -> told(false, text, 129600));
            Checks.edge("tried from 0 on", 0, () -> told(true, text, 0), 9, () -> told(true, text, -1));
            Checks.edge("tried from 129599 on", 0, () -> told(true, text, 129599), 9, () -> told(true, text, 129600));
        }
        for (boolean tried : new boolean[] {false, true}) {
            Checks.edge("ahead of a FAULT", 9, () -> told(tried, "toll", -1), 1, () -> told(tried, "toll", 0));
            Checks.edge("ahead of a FAULT at last", 9, () -> told(tried, "x", 129600), 1, () -> told(tried, "x", 129599));
            Checks.edge("MIN", 9, () -> told(tried, "", MIN), 0, () -> told(tried, "", 1));
            Checks.edge("MAX", 9, () -> told(tried, "", MAX), 0, () -> told(tried, "", 129598));
        }
    }

    private static int told(boolean tried, String text, int from) {
        TollTags x = new TollTags();
        x.land();
        return tried ? Checks.attempt(x, 0, text, from) : Checks.terms(x, 0, text, from);
    }

    // "For a MINUTE t counts, of those that are known, the one with the latest beginning that isn't behind t, of like
    // ones the one told last."
    private static void latestBeginning() {
        Checks.edge("not behind t", 1, () -> tollAt(50, 50), 70, () -> tollAt(50, 51));
        Checks.edge("at MINUTE 0", 1, () -> tollAt(0, 0), 70, () -> tollAt(0, 1));
        Checks.edge("at the last MINUTE", 1, () -> tollAt(129599, 129599), 70, () -> tollAt(129598, 129599));
        Checks.edge("the latest, told first", 1, () -> tollAt(99, 41, 40), 2, () -> tollAt(99, 40, 41));
        Checks.edge("of like ones the one told last", 2, () -> tollAt(99, 40, 40), 1, () -> tollAt(99, 41, 40));
        Checks.edge("of those not behind t", 2, () -> tollAt(99, 100, 40), 1, () -> tollAt(100, 100, 40));
        Checks.edge("of four", 4, () -> tollAt(99, 1, 9, 99, 99), 3, () -> tollAt(99, 1, 9, 99, 98));
        Checks.edge("of four the first", 1, () -> tollAt(99, 9, 8, 7, 100), 2, () -> tollAt(99, 9, 9, 7, 100));
    }

    /** What a PASSAGE at t costs by texts from some MINUTES on, the first of which says 'toll 1', and so on. */
    private static int tollAt(int t, int... from) {
        TollTags x = Worlds.smallAt(t);
        x.signal(0, 0, t);
        for (int i = 0; i < from.length; i++) {
            Checks.terms(x, 0, "toll " + (i + 1) + ";", from[i]);
        }
        return x.passage(0, 0, 2, t);
    }

    // "words (a .. z, the longest row)"
    private static void words() {
        edge("the longest row", "toll kmm;", 3005, "toll km m;", 1008);
        edge("a word ends at a blank", "tollkm;", 1000, "toll km;", 0);
        edge("a word ends at a NUMBER", "toll5;", 0, "toll5km;", 1005);
        edge("a word ends at a sign", "toll(km);", 0, "toll(kmx);", 3005);
        edge("'or' at its end", "toll 1 or 2;", 0, "toll 1 orr 2;", 1007);
        edge("'not' at its end", "toll not 1;", 0, "toll nott 1;", 3005);
        edge("a beginning of a word is none", "tol 1;", 1000, "toll 1;", 0);
        edge("a word in a word is none", "toll xkm;", 3005, "toll km;", 0);
        edge("letters are small", "toll KM;", 1005, "toll km;", 0);
        edge("one letter large", "toll Km;", 1005, "toll kM;", 3005);
        for (String value : "axles fumes km hour weekday sort gone guessed".split(" ")) {
            edge("VALUE", "toll " + value + ";", 0, "toll " + value + "s;", 3005);
            edge("VALUE, its end", "toll " + value + ";", 0, "toll " + value.substring(1) + ";", 3005);
        }
        for (String head : "toll free late double".split(" ")) {
            edge("CLAUSE", head + " 1;", 0, head + "s 1;", 1000);
            edge("no VALUE", "toll " + head + ";", 3005, "toll 1;", 0);
        }
        reads("toll " + "a".repeat(395), 3005);
    }

    // "NUMBERS (1 to 5 digits)"
    private static void numbers() {
        edge("5 digits", "toll 99999;", 0, "toll 100000;", 2005);
        edge("5 digits with 0 ahead", "toll 00001;", 0, "toll 000001;", 2005);
        edge("5 digits behind 'late'", "late 99999;", 0, "late 100000;", 2005);
        edge("5 digits behind 'double'", "double 00000;", 0, "double 000000;", 2007);
        edge("two NUMBERS", "toll 123456;", 2005, "toll 12345 6;", 1011);
        costs("all digits count", "toll 12345;", 12345, "toll 01234;", 1234);
        costs("0 ahead is no other NUMBER", "toll 00012;", 12, "toll 00120;", 120);
        costs("the greatest", "toll 99999;", 99999, "toll 99998;", 99998);
        costs("one digit", "toll 0;", 0, "toll 9;", 9);
        reads("toll " + "9".repeat(395), 2005);
    }

    // "signs ; ( ) + - * / < = ;": each byte between a NUMBER and a VALUE.
    private static void everyByte() {
        for (int b = 0; b < 256; b++) {
            String text = "toll 1" + (char) b + "km;";
            boolean joins = "+-*/<=".indexOf(b) >= 0;
            boolean parts = b == 32 || b == 10 || b == ';' || b >= '0' && b <= '9';
            Checks.same("byte " + b + " behind a NUMBER", joins ? 0 : parts ? 1007 : 1006, read(text));
            boolean word = b >= 'a' && b <= 'z';
            boolean begins = b == 32 || b == 10 || b == '(';
            boolean digit = b >= '0' && b <= '9';
            long want = word ? 3005 : digit ? 1006 : begins ? b == '(' ? 1008 : 0 : 1005;
            Checks.same("byte " + b + " ahead of a VALUE", want, read("toll " + (char) b + "km;"));
            boolean blank = b == 32 || b == 10;
            Checks.same("byte " + b + " ahead of all", blank ? 0 : 1000, read((char) b + "toll 1;"));
            Checks.same("byte " + b + " alone", blank ? 0 : 1000, read("" + (char) b));
            Checks.same("byte " + b + " at the end", blank ? 0 : 1007, read("toll 1;" + (char) b));
        }
    }

    // "blanks (32, 10) between them count for nothing"
    private static void blanks() {
        String text = "\n toll\n\n( \n1+ 2\n)* 3 ;\n \nlate\n5 ; ";
        reads(text, 0);
        costs("between TOKENS", "toll ( 1 +\n2 ) * 3 ;", 9, "toll(1+2)*4;", 12);
        edge("not in a word", "toll k m;", 3005, "toll km;", 0);
        costs("not in a NUMBER", "toll 1 2;", -1007, "toll 12;", 12);
        reads("", 0);
        reads("\n", 0);
        reads(" ".repeat(400), 0);
        edge("9 is no blank", "toll 1;\t", 1007, "toll 1;\n", 0);
        edge("13 is no blank", "toll 1;\r\n", 1007, "toll 1; \n", 0);
        edge("31, 33 are no blanks", "toll 1;" + (char) 31, 1007, "toll 1;" + (char) 32, 0);
    }

    // "TERMS: CLAUSE*. CLAUSE: ('toll' | 'free') EXPR ';' | ('late' | 'double') NUMBER ';'"
    private static void clauses() {
        edge("CLAUSE* is also none", "", 0, ";", 1000);
        edge("many", "toll 1;free 0;late 1;double 1;toll 1;", 0, "toll 1;free 0;late 1;double 1;toll 1", 1036);
        edge("a CLAUSE has one ';'", "toll 1;toll 1;", 0, "toll 1;;toll 1;", 1007);
        edge("'late' has a NUMBER", "late 5;", 0, "late km;", 1005);
        edge("'late' has one NUMBER", "late 5;", 0, "late 5 5;", 1007);
        edge("'late' has no EXPR", "late 5;", 0, "late (5);", 1005);
        edge("'late' has no sum", "late 5;", 0, "late 5+5;", 1006);
        edge("'double' has a NUMBER", "double 0;", 0, "double ;", 1007);
        edge("'double' has no not", "double 1;", 0, "double not 1;", 1007);
        edge("'toll' has an EXPR", "toll (5);", 0, "toll ;", 1005);
        edge("'free' has an EXPR", "free km<5 or not axles=2;", 0, "free;", 1004);
        edge("a CLAUSE begins with its word", "toll 1;", 0, "5;", 1000);
    }

    // "(of several of one sort the last)"
    private static void lastOfSort() {
        Checks.edge("the last 'late'", 1, () -> lateBy("late 1;late 9;", 9), 0, () -> lateBy("late 9;late 1;", 9));
        Checks.edge("of several 'late'", 0, () -> lateBy("late 9;late 9;late 8;", 9), 1,
            () -> lateBy("late 8;late 8;late 9;", 9));
        Checks.edge("the last 'double'", 1, () -> doubleBy("double 1;double 9;", 9), 0,
            () -> doubleBy("double 9;double 1;", 9));
        Checks.edge("'late' isn't 'double'", 1, () -> doubleBy("double 9;late 8;", 9), 0,
            () -> doubleBy("double 8;late 9;", 9));
        Checks.edge("the NUMBER itself", 1, () -> lateBy("late 9;", 9), 0, () -> lateBy("late 9;", 10));
        Checks.edge("'double' itself", 1, () -> doubleBy("double 9;", 9), 0, () -> doubleBy("double 9;", 10));
        Checks.edge("late 0", 1, () -> lateBy("late 0;", 0), 0, () -> lateBy("late 0;", 1));
        Checks.edge("double 0", 1, () -> doubleBy("double 0;", 0), 0, () -> doubleBy("double 0;", 1));
        Checks.edge("late 99999", 1, () -> lateBy("late 99999;", 99999), 0, () -> lateBy("late 99999;", 100000));
        Checks.edge("double 99999", 1, () -> doubleBy("late 99999;double 99999;", 99999), 0,
            () -> doubleBy("late 99999;double 99998;", 99999));
        // "Without, or without any TERMS: late 10080, double 30."
        Checks.edge("without 'late'", 1, () -> lateBy("toll 1;", 10080), 0, () -> lateBy("toll 1;", 10081));
        Checks.edge("without TERMS", 1, () -> lateBy(null, 10080), 0, () -> lateBy(null, 10081));
        Checks.edge("without 'double'", 1, () -> doubleBy("toll 1;", 30), 0, () -> doubleBy("toll 1;", 31));
        Checks.edge("without TERMS, 'double'", 1, () -> doubleBy(null, 30), 0, () -> doubleBy(null, 31));
        Checks.edge("a FAULT leaves it", 1, () -> doubleBy("double 5;x", 30), 0, () -> doubleBy("double 5;", 30));
    }

    /** Whether a SIGNAL for 0 that was told at a MINUTE COUNTS by a text. */
    private static int lateBy(String text, int told) {
        TollTags x = Worlds.smallAt(told);
        x.signal(0, 0, 0);
        if (text != null) {
            Checks.terms(x, 0, text, 0);
        }
        return x.track(0, 0, told);
    }

    /** Whether another BOX's SIGNAL that is so much later is DOUBLE by a text. */
    private static int doubleBy(String text, int apart) {
        TollTags x = Worlds.small();
        x.box(0, 0);
        x.signal(0, 0, 0);
        x.go(apart);
        x.signal(1, 0, apart);
        if (text != null) {
            Checks.terms(x, 0, text, 0);
        }
        return x.track(1, 4, apart);
    }

    // "EXPR: AND ('or' AND)*. AND: NOT ('and' NOT)*. NOT: 'not' NOT | SUM [('<' | '=') SUM]. SUM: PRODUCT (('+' | '-')
    // PRODUCT)*. PRODUCT: PART (('*' | '/') PART)*. PART: NUMBER | VALUE | '(' EXPR ')'."
    private static void grammar() {
        edge("one comparison", "toll 1<2;", 0, "toll 1<2<3;", 1008);
        edge("one of both", "toll 1=2;", 0, "toll 1=2<3;", 1008);
        edge("another one behind 'and'", "toll 1<2 and 3<4;", 0, "toll 1<2+3<4;", 1010);
        edge("another one behind 'or'", "toll 1=2 or 3=4;", 0, "toll 1=2*3=4;", 1010);
        edge("another one in parentheses", "toll (1<2)<3;", 0, "toll (1<2<3);", 1009);
        edge("another one in parentheses behind", "toll 1<(2<3);", 0, "toll 1<(2)<3;", 1010);
        edge("'not' ahead of a comparison", "toll not 1<2;", 0, "toll 1<not 2;", 3007);
        edge("'not' behind 'and'", "toll 1 and not 2;", 0, "toll 1+not 2;", 3007);
        edge("'not' in parentheses", "toll 1+(not 2);", 0, "toll 1*not 2;", 3007);
        edge("no sign ahead", "toll 0-1;", 0, "toll -1;", 1005);
        edge("a PART behind '+'", "toll 1+1;", 0, "toll 1+;", 1007);
        edge("a PART behind '<'", "toll 1<1;", 0, "toll 1<<1;", 1007);
        edge("a PART in parentheses", "toll (1);", 0, "toll ();", 1006);
        edge("a parenthesis closes", "toll (1);", 0, "toll (1;", 1007);
        edge("no more close", "toll (1);", 0, "toll (1));", 1008);
        edge("no PART behind a PART", "toll 1+(2);", 0, "toll 1(2);", 1006);
        edge("'or' stands between", "toll 1 or 2;", 0, "toll or 2;", 3005);
        edge("'and' has both", "toll 1 and 2;", 0, "toll 1 and;", 1010);
        costs("'and' binds more than 'or'", "toll 1 or 1 and 0;", 1, "toll (1 or 1) and 0;", 0);
        costs("'not' binds more than 'and'", "toll not 0 and 0;", 0, "toll not (0 and 0);", 1);
        costs("'<' binds more than 'not'", "toll not 5<3;", 1, "toll (not 5)<0;", 0);
        costs("'+' binds more than '<'", "toll 1<1+1;", 1, "toll (1<1)+0;", 0);
        costs("'*' binds more than '+'", "toll 1+2*3;", 7, "toll (1+2)*3;", 9);
    }

    // "From the left"
    private static void leftToRight() {
        costs("'-' from the left", "toll 9-3-2;", 4, "toll 9-(3-2);", 8);
        costs("'/' from the left", "toll 40/4/2;", 5, "toll 40/(4/2);", 20);
        costs("'/' and '*' from the left", "toll 7/2*2;", 6, "toll 7*2/2;", 7);
        costs("'*' and '/' from the left", "toll 3*5/2;", 7, "toll 3*(5/2);", 6);
        costs("'-' and '+' from the left", "toll 9-3+2;", 8, "toll 9-(3+2);", 4);
    }

    // "ints that wrap, / cut down to 0, by 0 gives 0"
    private static void cutsAndWraps() {
        String max = "(32767*65536+65535)";
        String min = "(0-32768*65536)";
        costs("the greatest int", "toll 0<" + max + ";", 1, "toll 0<" + max + "+1;", 0);
        costs("it wraps to the least", "toll " + max + "+1=" + min + ";", 1, "toll " + max + "=" + min + ";", 0);
        costs("the least wraps", "toll " + min + "-1=" + max + ";", 1, "toll " + min + "=" + max + ";", 0);
        costs("a product wraps to 0", "toll 65536*65536+5;", 5, "toll 65536*65535+5;", 0);
        costs("a product wraps below 0", "toll 32768*65536<0;", 1, "toll 32767*65536<0;", 0);
        costs("a product wraps beyond below", "toll 65537*65537=65537*2-1;", 1, "toll 65537*65537=65537*2;", 0);
        costs("the least by -1", "toll " + min + "/(0-1)=" + min + ";", 1, "toll " + max + "/(0-1)=" + min + ";", 0);
        costs("the wrapped one is the toll", "toll 65536*65536+99998;", 99998, "toll 65536*65536-1;", 0);
        costs("cut down to 0", "toll 100+(0-7)/2;", 97, "toll 100+(0-8)/2;", 96);
        costs("by a number below 0", "toll 100+7/(0-2);", 97, "toll 100+8/(0-2);", 96);
        costs("both below 0", "toll (0-7)/(0-2);", 3, "toll (0-8)/(0-2);", 4);
        costs("cut down", "toll 7/4;", 1, "toll 8/4;", 2);
        costs("below 1", "toll 3/4;", 0, "toll 4/4;", 1);
        costs("by 0", "toll 5+7/0;", 5, "toll 5+7/1;", 12);
        costs("0 by 0", "toll 5+0/0;", 5, "toll 5+2/2;", 6);
        costs("by what comes to 0", "toll 7/(3-3)+9;", 9, "toll 7/(3-2)+9;", 16);
        costs("by a test that doesn't hold", "toll 8/(3<3);", 0, "toll 8/(2<3);", 8);
    }

    // "tests, not, and, or are 1 or 0 (what isn't 0 holds)"
    private static void truths() {
        costs("'<'", "toll 2<3;", 1, "toll 3<3;", 0);
        costs("'='", "toll 3=3;", 1, "toll 2=3;", 0);
        costs("'<' below 0", "toll 0-3<0-2;", 1, "toll 0-2<0-2;", 0);
        costs("a test as a number", "toll 5+(2<3);", 6, "toll 5+(3<3);", 5);
        costs("'not' of 0", "toll not 0;", 1, "toll not 1;", 0);
        costs("'not' of 2", "toll not 2;", 0, "toll not 2-2;", 1);
        costs("'not' of -1", "toll not 0-1;", 0, "toll not 1-1;", 1);
        costs("'not' not of 5 is 1", "toll not not 5;", 1, "toll not not 0;", 0);
        costs("'and' of 2 and 4", "toll 2 and 4;", 1, "toll 2 and 0;", 0);
        costs("'and' of 0 and 4", "toll 0 and 4;", 0, "toll 0-1 and 4;", 1);
        costs("'or' of 0 and 9", "toll 0 or 9;", 1, "toll 0 or 0;", 0);
        costs("'or' of 9 and 0", "toll 9 or 0;", 1, "toll 9-9 or 0;", 0);
        costs("'or' of -1 and 0", "toll 0-1 or 0;", 1, "toll 0 or 0-0;", 0);
        costs("'or' of 2 and 4", "toll (2 or 4)+1;", 2, "toll (0 or 0)+1;", 1);
    }

    // "FAULTS, at a TOKEN's first byte: 1 a TOKEN that can't stand there, or is none"
    private static void misplaced() {
        edge("a CLAUSE's word", "axles 1;", 1000, "toll 1;", 0);
        edge("no such word", "foo", 1000, "", 0);
        edge("its first byte", "toll 1;  foo", 1009, "toll 1; foo", 1008);
        edge("its first byte, not its last", "toll 1 axles;", 1007, "toll axles 1;", 1011);
        edge("no TOKEN at all", "toll 1;\u00e9", 1007, "toll 1; \u00e9", 1008);
        edge("a ';' that can't stand there", "toll 1+;", 1007, "toll 1 ;", 0);
        edge("')' ahead of '('", "toll );", 1005, "toll (1);", 0);
        edge("an operator", "toll *1;", 1005, "toll 1*1;", 0);
        edge("a long NUMBER that can't stand there", "toll 1 123456;", 1007, "toll 1+123456;", 2007);
        edge("a long NUMBER ahead of all", "123456;", 1000, "toll 123456;", 2005);
        edge("a word where a NUMBER must stand", "late x;", 1005, "toll x;", 3005);
        edge("a word behind a PART", "toll 1 x;", 1007, "toll 1+x;", 3007);
        edge("'not' behind a PART", "toll 1 not 2;", 1007, "toll 1 and not 2;", 0);
        edge("'toll' behind a PART", "toll 1 toll 2;", 1007, "toll 1;toll 2;", 0);
    }

    // "(the text's length where it ends too soon)"
    private static void endsTooSoon() {
        String text = "toll not(km+1)<5;late 7;";
        int[] want = {0, 1000, 1000, 1000, 1004, 1005, 3005, 3005, 1008, 1009, 3009, 1011, 1012, 1013, 1014, 1015, 1016,
            0, 1017, 1017, 1017, 1021, 1022, 1023, 0};
        for (int n = 0; n < want.length; n++) {
            reads(text.substring(0, n), want[n]);
        }
        edge("blanks behind it are of its length", "toll 1", 1006, "toll 1  ", 1008);
        edge("'late' alone", "late", 1004, "late 5", 1006);
        edge("behind an operator", "toll 1+", 1007, "toll (", 1006);
        edge("of 400 bytes", "toll 1" + " ".repeat(394), 1400, "toll 1" + " ".repeat(393), 1399);
    }

    // "2 one that can, but is too much: a NUMBER of 6 digits or more"
    private static void numbersTooLong() {
        edge("6 digits", "toll 100000;", 2005, "toll 10000;", 0);
        edge("6 digits and a VALUE", "toll km*100000;", 2008, "toll km*10000;", 0);
        edge("in parentheses", "toll (((((123456;", 2010, "toll (((((12345;", 1015);
        edge("behind '<'", "toll 1<123456;", 2007, "toll 1<12345;", 0);
        edge("behind 'not'", "toll not 123456;", 2009, "toll not 12345;", 0);
        edge("behind 'double'", "double 123456", 2007, "double 12345", 1012);
        edge("where a ';' must stand", "late 1 123456;", 1007, "late 123456;", 2005);
    }

    // "2: the first TOKEN of the 17th CLAUSE"
    private static void seventeenthClause() {
        String fifteen = "late 1;".repeat(15);
        edge("the 17th", fifteen + "late 1;late 1;", 2112, fifteen + "late 1;", 0);
        edge("the 16th may be anything", fifteen + "toll km<5;", 0, fifteen + "late 1;toll km<5;", 2112);
        for (String head : "toll free late double".split(" ")) {
            edge("its first TOKEN", fifteen + "free 0; " + head, 2113, fifteen + head + " 0;", 0);
        }
        edge("what can't stand there is 1", fifteen + "late 1;km", 1112, fifteen + "late 1;late", 2112);
        edge("a NUMBER can't", fifteen + "late 1;123456", 1112, fifteen + "late 1;toll 123456", 2112);
        edge("a ';' can't", fifteen + "late 1;;", 1112, fifteen + "late 1;double;", 2112);
        edge("blanks can", fifteen + "late 1; \n", 0, fifteen + "late 1; \n.", 1114);
    }

    // "2: of an EXPR within 6 others (a NUMBER, any word, a parenthesis)"
    private static void sevenDeep() {
        edge("within 5 and within 6 others", "toll (((((1)))));", 0, "toll ((((((1))))));", 2011);
        String[] firsts = {"1", "123456", "km", "x", "not 1", "toll", "and", "("};
        for (String first : firsts) {
            edge("first TOKEN " + first, "toll ((((((" + first, 2011, "toll ((((((" + ";", 1011);
        }
        for (String first : new String[] {")", "+", "<", ";", "-1", ".", "A", ""}) {
            edge("can't stand there: " + first, "toll ((((((" + first, 1011, "toll ((((((1", 2011);
        }
        edge("side by side they are not within", "toll (((((1)))))+(((((1)))));", 0, "toll (((((1)))))+((((((1", 2023);
        edge("closed and opened", "toll ((((((1)+1))));", 2011, "toll (((((1)+1))));", 0);
        edge("opened behind a PART", "toll (((((1+(1))))));", 2013, "toll ((((1+(1)))));", 0);
        edge("behind a 'not'", "toll not (not (not (not (not (1)))));", 0,
            "toll not (not (not (not (not (not (1))))));", 2035);
        edge("in 'free'", "free ((((((1))))));", 2011, "free (((((1)))));", 0);
        edge("of each CLAUSE anew", "toll (((((1)))));free (((((1)))));", 0, "toll (((((1)))));free ((((((1", 2028);
    }

    // "2: the seventh 'not' side by side"
    private static void seventhNot() {
        String six = "not ".repeat(6);
        edge("six and seven", "toll " + six + "1;", 0, "toll " + six + "not 1;", 2029);
        edge("the seventh is told ahead of the end", "toll " + six + "not", 2029, "toll " + six, 1029);
        edge("side by side: blanks between count for nothing", "toll " + six + " \n not 1;", 2032, "toll " + six + " \n 1;", 0);
        edge("a parenthesis stands between", "toll " + six + "(not 1);", 0, "toll " + six + "not (1);", 2029);
        edge("behind 'and' anew", "toll " + six + "1 and " + six + "1;", 0,
            "toll " + six + "1 and " + six + "not 1;", 2059);
        edge("in a CLAUSE anew", "toll " + six + "1;free " + six + "1;", 0, "toll " + six + "1;free " + six + "not 1;", 2060);
        costs("six of them are read", "toll " + six + "0;", 0, "toll " + six.substring(4) + "0;", 1);
        edge("within 6 others the first is too much already", "toll ((((((not", 2011, "toll (((((not", 1013);
    }

    // "3 any word where a PART must stand that is no VALUE"
    private static void noValues() {
        String[] joints = {"toll ", "free ", "toll 1+", "toll 1-", "toll 1*", "toll 1/", "toll 1<", "toll 1=", "toll (",
            "toll 1 and ", "toll 1 or ", "toll not ", "toll 1+("};
        for (String joint : joints) {
            int place = joint.length();
            for (String word : "x and or toll free late double axle kms".split(" ")) {
                Checks.same(joint + word, 3000 + place, read(joint + word));
            }
            for (String value : "axles fumes km hour weekday sort gone guessed".split(" ")) {
                Checks.same(joint + value, 1000 + place + value.length(), read(joint + value));
            }
        }
        edge("'not' behind '+'", "toll 1+not 1;", 3007, "toll (not 1);", 0);
        edge("'not' behind '<'", "toll 1<not 1;", 3007, "toll not 1<1;", 0);
        edge("only where a PART must stand", "toll 1 x", 1007, "toll 1*x", 3007);
        edge("only a word", "toll 1*.", 1007, "toll 1*x", 3007);
        edge("within 6 others it is 2", "toll ((((((x", 2011, "toll (((((x", 3010);
    }

    // "the first along the text"
    private static void firstFault() {
        edge("1 ahead of 3", "toll 1;x;toll y;", 1007, "toll 1;toll y;x;", 3012);
        edge("2 ahead of 1", "toll 123456;x", 2005, "toll 12345;x", 1011);
        edge("3 ahead of 2", "toll x+123456;", 3005, "toll 1+123456;", 2007);
        edge("1 ahead of its end", "toll 1;.toll", 1007, "toll 1;toll", 1011);
    }

    // "The place of the latest terms()'s or attempt()'s FAULT; NONE without."
    private static void placeOfLatest() {
        TollTags x = new TollTags();
        x.land();
        Checks.edge("without", NONE, x::fault, 5, () -> faultOf(x, false, "toll x;"));
        Checks.edge("asked again", 5, x::fault, 7, () -> faultOf(x, false, "toll 1;x"));
        Checks.edge("of a TRY", 0, () -> faultOf(x, true, "x"), NONE, () -> faultOf(x, true, ""));
        Checks.edge("of terms() behind a TRY", 1, () -> faultOf(x, false, " x"), NONE, () -> faultOf(x, false, " "));
        Checks.edge("a TRY without behind terms() with one", 1, () -> faultOf(x, false, " x"), NONE,
            () -> faultOf(x, true, " "));
        Checks.edge("at the end of 400 bytes", 400, () -> faultOf(x, false, "toll 1" + " ".repeat(394)),
            399, () -> faultOf(x, false, "toll 1" + " ".repeat(393)));
        faultOf(x, false, "toll x;");
        Checks.due("refused", ILLEGAL, () -> x.terms(0, 1, 0));
        Checks.edge("nothing changes then", 5, x::fault, 6, () -> faultOf(x, false, "toll  x;"));
        Checks.due("refused", ILLEGAL, () -> x.attempt(0, -1, 0));
        Checks.edge("nothing changes then", 6, x::fault, 7, () -> faultOf(x, true, "toll   x;"));
        Checks.due("no such LAND", Checks.NO_SUCH, () -> x.attempt(1, 0, 0));
        Checks.edge("nothing changes then", 7, x::fault, NONE, () -> faultOf(x, true, ""));
        faultOf(x, false, "toll x;");
        Checks.due("9", 9, () -> Checks.terms(x, 0, "toll x;", -1));
        Checks.due("no FAULT with 9", NONE, x::fault);
    }

    private static int faultOf(TollTags x, boolean tried, String text) {
        if (tried) {
            Checks.attempt(x, 0, text, 0);
        } else {
            Checks.terms(x, 0, text, 0);
        }
        return x.fault();
    }

    // "the last 'toll' (0 to 99999: what is below, above is taken for these); without one 10 times km"
    private static void tollsCutDown() {
        costs("0", "toll 0;", 0, "toll 1;", 1);
        costs("below 0", "toll 0-1;", 0, "toll 2-1;", 1);
        costs("far below 0", "toll 0-99999;", 0, "toll 0+99999;", 99999);
        costs("99999", "toll 99999;", 99999, "toll 99998;", 99998);
        costs("above 99999", "toll 99999+1;", 99999, "toll 99999-1;", 99998);
        costs("the greatest int", "toll 32767*65536+65535;", 99999, "toll 32768*65536;", 0);
        costs("the last one", "toll 1;toll 2;", 2, "toll 2;toll 1;", 1);
        costs("the last one, below 0", "toll 5;toll 0-5;", 0, "toll 0-5;toll 5;", 5);
        costs("without one", "late 99;", 70, "late 99;toll 71;", 71);
        costs("without TERMS' bytes", "", 70, "toll 7;", 7);
        Checks.edge("10 times km", 9990, () -> plain(999), 10, () -> plain(1));
    }

    private static int plain(int km) {
        TollTags x = Worlds.small();
        x.road(0, 1, 0, km, 0, true);
        x.signal(0, 1, 0);
        return x.passage(0, 0, 2, 0);
    }

    // "0, if it is DOUBLE, or some 'free' isn't 0"
    private static void freeAndDouble() {
        costs("some 'free' is 1", "toll 5;free 1;", 0, "toll 5;free 0;", 5);
        costs("some 'free' is 2", "toll 5;free 2;", 0, "toll 5;free 2-2;", 5);
        costs("some 'free' is -1", "toll 5;free 0-1;", 0, "toll 5;free 1-1;", 5);
        costs("any of them", "free 0;toll 5;free 1;free 0;", 0, "free 0;toll 5;free 0;free 0;", 5);
        costs("the first of them", "free 1;toll 5;free 0;", 0, "free 0;toll 5;free 0;", 5);
        costs("the last of them", "free 0;free 0;toll 5;free 7;", 0, "free 0;free 0;toll 5;free 7=8;", 5);
        costs("without a 'toll'", "free 1;", 0, "free 0;", 70);
        costs("free by VALUES", "toll 5;free axles<6;", 0, "toll 5;free axles<5;", 5);
        Checks.edge("DOUBLE costs nothing", 0, () -> secondCost(30), 8, () -> secondCost(31));
    }

    /** What the second BOX's SIGNAL costs, so much behind the first one's. */
    private static int secondCost(int apart) {
        TollTags x = Worlds.small();
        x.box(0, 0);
        Checks.terms(x, 0, "toll 8;", 0);
        x.signal(0, 0, 0);
        x.go(apart);
        x.signal(1, 0, apart);
        return x.passage(1, 0, 2, apart);
    }

    // "HOUR (0 to 23)", "1440 a DAY"
    private static void hours() {
        Checks.edge("hour 0", 0, () -> cost("toll hour;", 59), 1, () -> cost("toll hour;", 60));
        Checks.edge("hour 1", 1, () -> cost("toll hour;", 119), 2, () -> cost("toll hour;", 120));
        Checks.edge("hour 23", 22, () -> cost("toll hour;", 1379), 23, () -> cost("toll hour;", 1380));
        Checks.edge("the hour wraps", 23, () -> cost("toll hour;", 1439), 0, () -> cost("toll hour;", 1440));
        Checks.edge("at the last MINUTE", 23, () -> cost("toll hour;", 129599), 22, () -> cost("toll hour;", 129539));
        Checks.edge("at MINUTE 0", 0, () -> cost("toll hour;", 0), 23, () -> cost("toll hour;", 2879));
    }

    // "weekday: the DAY modulo 7"
    private static void weekdays() {
        for (int day = 0; day < 90; day++) {
            int first = 1440 * day;
            int weekday = day % 7;
            Checks.same("first MINUTE of DAY " + day, weekday, cost("toll weekday;", first));
            Checks.same("last MINUTE of DAY " + day, weekday, cost("toll weekday;", first + 1439));
        }
        Checks.edge("the weekday wraps", 6, () -> cost("toll weekday;", 10079), 0, () -> cost("toll weekday;", 10080));
        Checks.edge("not with the MONTH", 1, () -> cost("toll weekday;", 43199), 2, () -> cost("toll weekday;", 43200));
        Checks.edge("the last DAY", 5, () -> cost("toll weekday;", 129599), 4, () -> cost("toll weekday;", 128159));
    }

    // "axles, fumes of the LORRY; km, sort of the ROAD"
    private static void valuesOfThings() {
        Checks.edge("axles", 2, () -> costOf("axles", 2, 6, 999, 3), 9, () -> costOf("axles", 9, 0, 1, 0));
        Checks.edge("fumes", 6, () -> costOf("fumes", 2, 6, 999, 3), 0, () -> costOf("fumes", 9, 0, 1, 1));
        Checks.edge("km", 999, () -> costOf("km", 2, 6, 999, 3), 1, () -> costOf("km", 9, 0, 1, 0));
        Checks.edge("sort", 3, () -> costOf("sort", 2, 6, 999, 3), 0, () -> costOf("sort", 9, 1, 1, 0));
    }

    /** What the second of two BOXES of two LORRIES pays on the second of two ROADS for a VALUE. */
    private static int costOf(String value, int axles, int fumes, int km, int sort) {
        TollTags x = Worlds.small();
        x.lorry(axles, fumes);
        x.box(1, 0);
        x.road(0, 1, 0, km, sort, true);
        x.signal(1, 1, 0);
        Checks.terms(x, 0, "toll " + value + ";", 0);
        return x.passage(1, 0, 2, 0);
    }

    // "gone: km of all PASSAGES ahead of it on the BOX's TRACK, in that LAND and MONTH, that aren't DOUBLE; guessed: 1
    // if it is"
    private static void goneAndGuessed() {
        TollTags x = Worlds.lineAt(1000);
        x.signal(0, 0, 100);
        x.signal(0, 3, 200);
        Checks.terms(x, 0, "toll gone*10+guessed;", 0);
        Checks.edge("without one ahead", 0, () -> x.passage(0, 0, 2, 1000), 71, () -> x.passage(0, 1, 2, 1000));
        Checks.edge("guessed and not", 101, () -> x.passage(0, 2, 2, 1000), 140, () -> x.passage(0, 3, 2, 1000));
    }

    // "TRY: a text as TERMS of a LAND from a MINUTE on, as if told last of all"
    private static void tries() {
        Checks.edge("from a MINUTE on", 5 - 70, () -> moreBy("toll 5;", 500, 0), 0, () -> moreBy("toll 5;", 501, 0));
        Checks.edge("from the first", 5 - 70, () -> moreBy("toll 5;", 0, 0), 0, () -> moreBy("toll 70;", 0, 0));
        Checks.edge("told last of like ones", 5 - 1, () -> moreBy("toll 5;", 400, 4), 0, () -> moreBy("toll 5;", 399, 4));
        Checks.edge("more by most", 99999 - 70, () -> moreBy("toll 99999;", 0, 0), -70, () -> moreBy("free 1;", 0, 0));
        Checks.edge("'late', too", -70, () -> moreBy("late 0;", 0, 0), 0, () -> moreBy("late 1;", 0, 0));
        TollTags x = Worlds.rich();
        x.attempt(0, 0, 0);
        Checks.attempt(x, 0, "toll 0;", 0);
        Checks.edge("UNPAID ones, too, of all BOXES", -310, x::more, 70, () -> x.unpaid(0, 0, 1000));
        Checks.attempt(x, 1, "toll 0;", 0);
        Checks.edge("in that LAND", -27, x::more, -310, () -> moreOf(x, "toll 0;"));
    }

    private static int moreOf(TollTags x, String text) {
        Checks.attempt(x, 0, text, 0);
        return x.more();
    }

    /** How much more by a text from a MINUTE on, for a SIGNAL at 500, told at 501, with texts 'toll 1' from 400 on. */
    private static int moreBy(String text, int from, int texts) {
        TollTags x = Worlds.smallAt(501);
        x.signal(0, 0, 500);
        for (int i = 0; i < texts; i++) {
            Checks.terms(x, 0, "toll 1;", 400);
        }
        Checks.attempt(x, 0, text, from);
        return x.more();
    }

    // "How much more by the latest TRY that was without a FAULT; 0 without one."
    private static void moreOfLatest() {
        TollTags x = Worlds.small();
        x.signal(0, 0, 0);
        Checks.edge("without one", 0, x::more, 30, () -> moreOf(x, "toll 100;"));
        Checks.edge("one with a FAULT", 30, () -> moreOf(x, "toll 200"), 130, () -> moreOf(x, "toll 200;"));
        Checks.due("one of no MINUTE", 9, () -> Checks.attempt(x, 0, "toll 5;", -1));
        Checks.edge("is none", 130, x::more, -70, () -> moreOf(x, "toll 0;"));
        Checks.due("terms() is none", 0, () -> Checks.terms(x, 0, "toll 71;", 0));
        Checks.edge("terms() is none", -70, x::more, -71, () -> moreOf(x, "free 1;"));
        Checks.due("refused", ILLEGAL, () -> x.attempt(0, 1, 0));
        Checks.edge("a refused one is none", -71, x::more, 0, () -> moreOf(x, "toll 71;"));
    }
}
