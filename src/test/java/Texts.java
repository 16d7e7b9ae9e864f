import java.util.Random;

/** Makes texts: TERMS by the grammar, and rows of TOKENS that are nearly such. */
final class Texts {
    private static final String[] VALUES = {"axles", "fumes", "km", "hour", "weekday", "sort", "gone", "guessed"};
    private static final String[] ANY = {"toll", "free", "late", "double", "and", "or", "not", "axles", "fumes", "km",
        "hour", "weekday", "sort", "gone", "guessed", "tolls", "x", "nota", "0", "7", "99999", "00001", "100000",
        "1234567", ";", "(", ")", "+", "-", "*", "/", "<", "=", ">", "A", "\t", "\r", "!", "\u00e9", "", "5", "(", ")",
        ";", "not", "not not not not not not", "((((("};

    private final Random random;

    Texts(Random random) {
        this.random = random;
    }

    /** TERMS without a FAULT, of at most so many bytes. */
    String terms(int most) {
        StringBuilder text = new StringBuilder();
        int clauses = random.nextInt(8) == 0 ? 16 : random.nextInt(5);
        for (int i = 0; i < clauses; i++) {
            String clause = clause();
            if (text.length() + clause.length() <= most) {
                text.append(clause);
            }
        }
        return text.toString();
    }

    /** TERMS with some TOKENS changed, or a mere row of TOKENS. */
    String nearly(int most) {
        StringBuilder text = new StringBuilder();
        if (random.nextInt(4) == 0) {
            text.append(random.nextInt(2) == 0 ? "toll " : "");
            for (int i = random.nextInt(12); i >= 0; i--) {
                text.append(ANY[random.nextInt(ANY.length)]).append(blank());
            }
        } else {
            for (int i = random.nextInt(18); i >= 0; i--) {
                text.append(clause());
            }
            for (int i = random.nextInt(3); i > 0; i--) {
                int at = random.nextInt(text.length() + 1);
                int end = Math.min(text.length(), at + random.nextInt(3));
                text.replace(at, end, ANY[random.nextInt(ANY.length)]);
            }
        }
        return text.substring(0, Math.min(most, text.length()));
    }

    private String clause() {
        String end = blank() + ";" + blank();
        switch (random.nextInt(6)) {
            case 0: return "free " + blank() + expr(0) + end;
            case 1: return "late" + blank() + pick(0, 1, 5, 60, 500, 10080, 99999) + end;
            case 2: return "double" + blank() + pick(0, 1, 5, 30, 180, 99999) + end;
            default: return "toll " + blank() + expr(0) + end;
        }
    }

    private String blank() {
        return random.nextInt(3) != 0 ? "" : random.nextInt(3) == 0 ? "\n" : " ";
    }

    private int pick(int... some) {
        return some[random.nextInt(some.length)];
    }

    private String row(int within, int one, String... signs) {
        StringBuilder row = new StringBuilder();
        int most = random.nextInt(5) == 0 ? 3 : random.nextInt(4) == 0 ? 2 : 1;
        for (int i = 0; i < most; i++) {
            String sign = signs[random.nextInt(signs.length)];
            row.append(i == 0 ? "" : sign.charAt(0) >= 'a' ? " " + sign + " " : blank() + sign + blank());
            row.append(one == 0 ? row(within, 1, "and") : one == 1 ? not(within) : one == 2
                ? row(within, 3, "*", "/") : part(within));
        }
        return row.toString();
    }

    private String expr(int within) {
        return row(within, 0, "or");
    }

    private String not(int within) {
        StringBuilder text = new StringBuilder();
        if (random.nextInt(4) == 0) {
            for (int i = random.nextInt(random.nextInt(4) == 0 ? 6 : 1); i >= 0; i--) {
                text.append("not ");
            }
        }
        text.append(row(within, 2, "+", "-"));
        if (random.nextInt(3) == 0) {
            text.append(blank()).append(random.nextInt(2) == 0 ? '<' : '=').append(blank()).append(row(within, 2, "+", "-"));
        }
        return text.toString();
    }

    private String part(int within) {
        int kind = random.nextInt(8);
        if (kind == 0 && within < 5) {
            return "(" + blank() + expr(within + 1) + blank() + ")";
        }
        if (kind == 1 && within == 0) {
            int deep = random.nextInt(6);
            return "(".repeat(deep) + "km" + ")".repeat(deep);
        }
        if (kind < 4) {
            return Integer.toString(pick(0, 1, 2, 3, 10, 60, 1000, 99999));
        }
        return VALUES[random.nextInt(VALUES.length)];
    }
}
