import java.nio.charset.StandardCharsets;
import java.util.Arrays;
import java.util.function.IntUnaryOperator;

/** What all tests share: counting answers that are not due, and telling a text to an object. */
final class Checks {
    private int asked;
    private int wrong;

    void due(String call, long got, long want) {
        asked++;
        if (got != want) {
            wrong++;
            System.out.println(call + " answered " + got + ", due is " + want);
        }
    }

    void due(String call, boolean got, boolean want) {
        due(call, got ? 1 : 0, want ? 1 : 0);
    }

    /** The text must have this fault at this place. */
    void faulty(String text, int fault, int place) {
        HedgeRecord x = new HedgeRecord();
        due("hedge() of '" + text + "'", read(x, text), HedgeRecord.NONE);
        due("fault(0) of '" + text + "'", x.fault(0), fault);
        due("fault(1) of '" + text + "'", x.fault(1), place);
    }

    /** The text must be a hedge with so many bills. */
    void fine(String text, int bills) {
        HedgeRecord x = new HedgeRecord();
        due("hedge() of '" + text + "'", read(x, text), bills);
        due("fault(0) of '" + text + "'", x.fault(0), 0);
        due("fault(1) of '" + text + "'", x.fault(1), HedgeRecord.NONE);
    }

    void finish() {
        System.out.println(asked + " answers, " + wrong + " not as due");
        if (wrong > 0 || asked == 0) {
            System.exit(1);
        }
    }

    static HedgeRecord told(String text) {
        HedgeRecord x = new HedgeRecord();
        if (read(x, text) == HedgeRecord.NONE) {
            throw new IllegalStateException("fault " + x.fault(0) + " at " + x.fault(1) + " of '" + text + "'");
        }
        return x;
    }

    static int read(HedgeRecord x, String text) {
        tape(x, text.getBytes(StandardCharsets.ISO_8859_1));
        return x.hedge();
    }

    /** The tape must be empty or hold whole feeds; it then holds these bytes too. */
    static void tape(HedgeRecord x, byte[] bytes) {
        byte[] whole = Arrays.copyOf(bytes, (bytes.length + 19) / 20 * 20);
        for (int i = 0; i < whole.length; i += 20) {
            x.feed(word(whole, i), word(whole, i + 4), word(whole, i + 8), word(whole, i + 12), word(whole, i + 16));
        }
        x.end(bytes.length);
    }

    private static int word(byte[] b, int i) {
        return (b[i] & 255) << 24 | (b[i + 1] & 255) << 16 | (b[i + 2] & 255) << 8 | b[i + 3] & 255;
    }

    /** The answers to 0, 1 and so on. */
    static int[] row(int n, IntUnaryOperator of) {
        int[] found = new int[n];
        for (int i = 0; i < n; i++) {
            found[i] = of.applyAsInt(i);
        }
        return found;
    }

    static String times(String part, int n) {
        return part.repeat(n);
    }
}
