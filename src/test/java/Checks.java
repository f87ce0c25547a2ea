import java.nio.charset.StandardCharsets;
import java.util.NoSuchElementException;

/** What the tests share: feeding texts, comparing answers, the verdict at the end. */
final class Checks {
    interface Call {
        long answer();
    }

    /** Stands for an answer that is a NoSuchElementException. */
    static final long NO_SUCH = Long.MIN_VALUE;

    private static int wrong;
    private static int looked;

    private Checks() {
    }

    static void due(String call, long got, long want) {
        looked++;
        if (got != want) {
            wrong++;
            System.out.println(call + " answered " + got + ", due is " + want);
        }
    }

    static void due(String call, boolean got, boolean want) {
        due(call, got ? 1 : 0, want ? 1 : 0);
    }

    /** Any other exception goes through and ends the test. */
    static long answerOf(Call call) {
        try {
            return call.answer();
        } catch (NoSuchElementException e) {
            return NO_SUCH;
        }
    }

    static void dueNoSuch(String call, Call made) {
        looked++;
        long got = answerOf(made);
        if (got != NO_SUCH) {
            wrong++;
            System.out.println(call + " answered " + got + ", due is NoSuchElementException");
        }
    }

    /** Puts a text behind the tape, of which the first bytes are kept. */
    static void put(RuleByLot x, String text) {
        put(x, text.getBytes(StandardCharsets.ISO_8859_1));
    }

    static void put(RuleByLot x, int... bytes) {
        byte[] row = new byte[bytes.length];
        for (int i = 0; i < row.length; i++) {
            row[i] = (byte) bytes[i];
        }
        put(x, row);
    }

    static void put(RuleByLot x, byte[] bytes) {
        int before = x.count(5);
        for (int i = 0; i < bytes.length; i += 20) {
            x.feed(four(bytes, i), four(bytes, i + 4), four(bytes, i + 8), four(bytes, i + 12), four(bytes, i + 16));
        }
        if (!x.end(before + bytes.length)) {
            throw new IllegalStateException("the tape did not take " + bytes.length + " bytes");
        }
    }

    private static int four(byte[] bytes, int from) {
        int number = 0;
        for (int i = from; i < from + 4; i++) {
            number = number << 8 | (i < bytes.length ? bytes[i] & 255 : 0);
        }
        return number;
    }

    static int house(RuleByLot x, String text) {
        put(x, text);
        return x.house();
    }

    static int book(RuleByLot x, String text, int lives) {
        put(x, text);
        return x.book(lives);
    }

    static int sentence(RuleByLot x, String text) {
        put(x, text);
        return x.sentence();
    }

    static RuleByLot with(String house) {
        RuleByLot x = new RuleByLot();
        int lines = house(x, house);
        if (lines < 0) {
            throw new IllegalStateException("fault " + x.fault() + " at " + (-1 - lines) + " in " + house);
        }
        return x;
    }

    private static String shown(String text) {
        return "'" + text.strip() + "' (" + text.length() + " bytes)";
    }

    static void houseTaken(String text, int lines) {
        RuleByLot x = new RuleByLot();
        due("house() of " + shown(text), house(x, text), lines);
        due("fault() of " + shown(text), x.fault(), 0);
    }

    static void houseRefused(String text, int place, int kind) {
        RuleByLot x = new RuleByLot();
        due("house() of " + shown(text), house(x, text), -1 - place);
        due("fault() of " + shown(text), x.fault(), kind);
    }

    /** The book is judged alone: its lines may be wrong, its text may not. */
    static void bookTaken(String house, String text) {
        RuleByLot x = with(house);
        due("a FAULT of the BOOK " + shown(text), book(x, text, 0) < RuleByLot.NONE, false);
        due("fault() of " + shown(text), x.fault(), 0);
    }

    static void bookRefused(String house, String text, int place, int kind) {
        RuleByLot x = with(house);
        due("book() of " + shown(text), book(x, text, 0), -2 - place);
        due("fault() of " + shown(text), x.fault(), kind);
    }

    static void sentenceTaken(String house, String text, int ones) {
        RuleByLot x = with(house);
        due("sentence() of " + shown(text), sentence(x, text), ones);
        due("fault() of " + shown(text), x.fault(), 0);
    }

    static void sentenceRefused(String house, String text, int place, int kind) {
        RuleByLot x = with(house);
        due("sentence() of " + shown(text), sentence(x, text), -1 - place);
        due("fault() of " + shown(text), x.fault(), kind);
    }

    /** All that can be seen of an object, by some 120 calls that ask and change nothing. */
    static String seenAll(RuleByLot x) {
        return seen(x) + seenOfLatest(x) + x.count(5);
    }

    /** What an image keeps: the house, all that is so and the sentence. */
    static String seen(RuleByLot x) {
        StringBuilder all = new StringBuilder();
        for (int what = 0; what < 7; what++) {
            all.append(x.now(what)).append(' ');
        }
        for (int what = 0; what < 5; what++) {
            all.append(x.count(what)).append(' ');
        }
        for (int c = 0; c < x.count(2); c++) {
            for (int what = 0; what < 5; what++) {
                all.append(x.chapter(c, what)).append(' ');
            }
            all.append(x.waits(c)).append(' ').append(x.quarrels(c)).append(", ");
        }
        for (int m = 0; m < x.count(1); m++) {
            for (int what = 0; what < 5; what++) {
                all.append(x.monk(m, what)).append(' ');
            }
            for (int d = 0; d < x.count(0); d++) {
                all.append(x.left(m, d)).append(' ');
            }
        }
        for (int k = 0; k < 16; k++) {
            all.append(x.ago(k)).append(' ');
        }
        for (int k = -1; k < x.count(0); k++) {
            all.append(x.said(k)).append(' ');
        }
        return all.append(x.free()).toString();
    }

    /** What calls told last: it is no part of the house, of what is so or of the sentence. */
    static String seenOfLatest(RuleByLot x) {
        StringBuilder all = new StringBuilder();
        all.append(' ').append(x.fault()).append(' ').append(x.covering()).append(' ').append(x.watch()).append(' ');
        all.append(answerOf(() -> x.chance(0))).append('/').append(answerOf(() -> x.chance(1))).append(' ');
        for (int i = 0; i < 4; i++) {
            all.append(x.mostAt(i)).append(' ').append(x.told(i)).append(' ');
        }
        for (int b = x.byteAt(0), i = 1; b != RuleByLot.NONE; b = x.byteAt(i), i++) {
            all.append((char) b);
        }
        return all.append(' ').toString();
    }

    static void dueText(String what, String got, String want) {
        due(what + " is '" + got + "', due is '" + want + "'", got.equals(want), true);
    }

    static String notice(RuleByLot x) {
        StringBuilder text = new StringBuilder();
        int length = x.notice();
        for (int i = 0; i < length; i++) {
            text.append((char) x.byteAt(i));
        }
        return text.toString();
    }

    static void finish(String name) {
        System.out.println(name + ": " + looked + " answers, " + wrong + " not as due");
        if (wrong != 0 || looked == 0) {
            System.exit(1);
        }
    }
}
