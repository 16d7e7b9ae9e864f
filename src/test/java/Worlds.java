/** Objects in states that several tests begin with, and all that an object answers, as a text. */
final class Worlds {
    private Worlds() {
    }

    /** A LAND, a PROVIDER of 1000, a LORRY of 5 axles and fumes 3, its BOX; ROAD 0 (0 to 1, 7 km, sort 2, GANTRY). */
    static TollTags small() {
        TollTags x = new TollTags();
        x.land();
        x.provider(1000);
        x.lorry(5, 3);
        x.box(0, 0);
        x.road(0, 1, 0, 7, 2, true);
        return x;
    }

    /** small() at a MINUTE NOW. */
    static TollTags smallAt(int now) {
        TollTags x = small();
        x.go(now);
        return x;
    }

    /** small() with ROADS 1 (1 to 2, 3 km), 2 (2 to 3, 4 km) without a GANTRY, 3 (3 to 4, 5 km) with one. */
    static TollTags lineAt(int now) {
        TollTags x = smallAt(now);
        x.road(1, 2, 0, 3, 1, false);
        x.road(2, 3, 0, 4, 1, false);
        x.road(3, 4, 0, 5, 3, true);
        return x;
    }

    /** Some of everything at MINUTE 1000, twenty bytes on the tape, and a FAULT behind a TRY without one. */
    static TollTags rich() {
        TollTags x = lineAt(990);
        x.land();
        x.provider(50);
        x.lorry(2, 0);
        x.box(0, 1);
        x.box(1, 1);
        x.road(4, 5, 1, 9, 0, true);
        x.signal(0, 0, 100);
        x.signal(0, 3, 280);
        x.signal(1, 0, 110);
        x.signal(2, 3, 500);
        x.signal(2, 0, 600);
        x.signal(1, 4, 700);
        for (int signal = 0; signal < 3; signal++) {
            x.dispute(signal);
        }
        x.go(10);
        x.decide(1, 0, 0);
        x.signal(0, 0, 120);
        x.back(6);
        x.black(2, true, 550);
        x.rate(0, 0, 1500);
        Checks.terms(x, 1, "toll km*3;", 0);
        x.way(2, 0 | 1 << 6, 10);
        x.way(1, 3, 5);
        Checks.attempt(x, 0, "toll 1;", 0);
        Checks.attempt(x, 0, "toll x;", 0);
        Checks.feed(x, Checks.bytes("toll 5;"));
        return x;
    }

    /** All that an object answers NOW, in some 200 calls for rich(). */
    static String all(TollTags x) {
        StringBuilder text = new StringBuilder(counts(x));
        text.append("fault ").append(x.fault()).append(" more ").append(x.more());
        int now = x.count(0);
        for (int box = 0; box < x.count(5); box++) {
            text.append("\nbox ").append(box);
            tracks(text, x, box, now);
            tracks(text, x, box, Math.max(0, now - 1));
            passages(text, x, box, now);
        }
        sums(text, x, now);
        text.append("\nseen");
        for (int road = 0; road < 12; road++) {
            text.append(" ").append(x.sees(1 << road)).append("/").append(x.cameras(road));
        }
        return text.toString();
    }

    static String counts(TollTags x) {
        StringBuilder text = new StringBuilder("counts ");
        for (int what = 0; what < 10; what++) {
            text.append(x.count(what)).append(" ");
        }
        return text.toString();
    }

    private static void tracks(StringBuilder text, TollTags x, int box, int k) {
        for (int what = 0; what < 6; what++) {
            text.append(" ").append(x.track(box, what, k));
        }
    }

    private static void passages(StringBuilder text, TollTags x, int box, int k) {
        int many = x.track(box, 0, k);
        for (int i = 0; i < many; i++) {
            for (int what = 0; what < 7; what++) {
                text.append(what == 0 ? " | " : " ").append(x.passage(box, i, what, k));
            }
        }
    }

    private static void sums(StringBuilder text, TollTags x, int k) {
        for (int land = 0; land < x.count(1); land++) {
            text.append("\nland ").append(land).append(" unpaid ").append(x.unpaid(land, 0, k));
            for (int provider = 0; provider < x.count(3); provider++) {
                text.append(" due ").append(x.due(provider, land, 0, k));
                text.append(" falls ").append(x.falls(provider, land, k));
            }
        }
    }
}
