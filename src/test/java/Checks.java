import java.nio.charset.StandardCharsets;
import java.util.NoSuchElementException;

/** What the tests share: feeding texts, comparing answers, the verdict at the end. */
final class Checks {
    interface Call {
        long answer();
    }

    /** Stands for an answer that is a NoSuchElementException. */
    static final long NO_SUCH = Long.MIN_VALUE;

    private static int wrong;
    private static int looked;

    private Checks() {
    }

    static void due(String call, long got, long want) {
        looked++;
        if (got != want) {
            wrong++;
            System.out.println(call + " answered " + got + ", due is " + want);
        }
    }

    static void due(String call, boolean got, boolean want) {
        due(call, got ? 1 : 0, want ? 1 : 0);
    }

    /** Any other exception goes through and ends the test. */
    static long answerOf(Call call) {
        try {
            return call.answer();
        } catch (NoSuchElementException e) {
            return NO_SUCH;
        }
    }

    static void dueNoSuch(String call, Call made) {
        looked++;
        long got = answerOf(made);
        if (got != NO_SUCH) {
            wrong++;
            System.out.println(call + " answered " + got + ", due is NoSuchElementException");
        }
    }

    /** Puts a text behind the tape, of which the first bytes are kept. */
    static void put(RuleByLot x, String text) {
        put(x, text.getBytes(StandardCharsets.ISO_8859_1));
    }

    static void put(RuleByLot x, int... bytes) {
        byte[] row = new byte[bytes.length];
        for (int i = 0; i < row.length; i++) {
            row[i] = (byte) bytes[i];
        }
        put(x, row);
    }

    static void put(RuleByLot x, byte[] bytes) {
        int before = x.count(5);
        for (int i = 0; i < bytes.length; i += 20) {
            x.feed(four(bytes, i), four(bytes, i + 4), four(bytes, i + 8), four(bytes, i + 12), four(bytes, i + 16));
        }
        if (!x.end(before + bytes.length)) {
            throw new IllegalStateException("the tape did not take " + bytes.length + " bytes");
        }
    }

    private static int four(byte[] bytes, int from) {
        int number = 0;
        for (int i = from; i < from + 4; i++) {
            number = number << 8 | (i < bytes.length ? bytes[i] & 255 : 0);
        }
        return number;
    }

    static int house(RuleByLot x, String text) {
        put(x, text);
        return x.house();
    }

    static int book(RuleByLot x, String text, int lives) {
        put(x, text);
        return x.book(lives);
    }

    static int sentence(RuleByLot x, String text) {
        put(x, text);
        return x.sentence();
    }

    static RuleByLot with(String house) {
        RuleByLot x = new RuleByLot();
        int lines = house(x, house);
        if (lines < 0) {
            throw new IllegalStateException("fault " + x.fault() + " at " + (-1 - lines) + " in " + house);
        }
        return x;
    }

    static String notice(RuleByLot x) {
        StringBuilder text = new StringBuilder();
        int length = x.notice();
        for (int i = 0; i < length; i++) {
            text.append((char) x.byteAt(i));
        }
        return text.toString();
    }

    static void finish(String name) {
        System.out.println(name + ": " + looked + " answers, " + wrong + " not as due");
        if (wrong != 0 || looked == 0) {
            System.exit(1);
        }
    }
}
