import java.nio.charset.StandardCharsets;
import java.util.NoSuchElementException;

/** Counts what is as due and what is not, and feeds texts to a tape. */
final class Checks {
    static final int NO_SUCH = -1001;
    static final int ILLEGAL = -1002;

    private static int passed = 0;
    private static int failed = 0;

    private Checks() {
    }

    /** A call whose answer is a number; a boolean counts 1 or 0. */
    interface Call {
        long answer();
    }

    /** What a call answers, or a number that stands for the exception it throws. */
    static long outcome(Call call) {
        try {
            return call.answer();
        } catch (NoSuchElementException e) {
            return NO_SUCH;
        } catch (IllegalArgumentException e) {
            return e.getClass() == IllegalArgumentException.class ? ILLEGAL : -1003;
        } catch (RuntimeException e) {
            e.printStackTrace(System.out);
            return -1004;
        }
    }

    static void due(String what, long want, Call call) {
        same(what, want, outcome(call));
    }

    static void same(String what, long want, long got) {
        if (want == got) {
            passed++;
        } else {
            failed++;
            System.out.println("WRONG " + what + ": due is " + want + ", got " + got);
        }
    }

    static long truth(boolean b) {
        return b ? 1 : 0;
    }

    /** A boundary case and the one just beside it, which is answered otherwise. */
    static void edge(String sentence, long want, Call edge, long wantBeside, Call beside) {
        same(sentence + ": the two are answered alike", 0, truth(want == wantBeside));
        due(sentence, want, edge);
        due(sentence + ", just beside it", wantBeside, beside);
    }

    /** Feeds a text, with blanks behind it up to a multiple of twenty bytes. */
    static void feed(TollTags x, byte[] text) {
        for (int i = 0; i < text.length; i += 20) {
            x.feed(four(text, i), four(text, i + 4), four(text, i + 8), four(text, i + 12), four(text, i + 16));
        }
    }

    static byte[] bytes(String text) {
        return text.getBytes(StandardCharsets.ISO_8859_1);
    }

    static int four(byte[] text, int i) {
        int all = 0;
        for (int j = i; j < i + 4; j++) {
            all = all << 8 | (j < text.length ? text[j] & 255 : 32);
        }
        return all;
    }

    static int terms(TollTags x, int land, String text, int from) {
        feed(x, bytes(text));
        return x.terms(land, text.length(), from);
    }

    static int attempt(TollTags x, int land, String text, int from) {
        feed(x, bytes(text));
        return x.attempt(land, text.length(), from);
    }

    /** Prints the sums and ends the program, with 1 if something was not as due. */
    static void end() {
        System.out.println(passed + " passed, " + failed + " failed");
        System.exit(failed == 0 && passed > 0 ? 0 : 1);
    }
}
