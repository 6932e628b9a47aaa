import java.nio.charset.StandardCharsets;
import java.util.Arrays;

/** What the tests share: feeding a text, and counting answers that are not as due. */
class Checks {
    static final int LOW = Integer.MIN_VALUE;
    static final int HIGH = Integer.MAX_VALUE;

    private int wrong = 0;
    private int made = 0;

    void due(String call, long got, long want) {
        made++;
        if (got != want) {
            wrong++;
            if (wrong <= 50) {
                System.out.println(call + " answered " + got + ", due is " + want);
            }
        }
    }

    void due(String call, boolean got, boolean want) {
        due(call, got ? 1 : 0, want ? 1 : 0);
    }

    /** A text that a new object refuses. */
    void fault(String text, int fault, int place) {
        FaithfulStools x = new FaithfulStools();
        due("4 chapel of " + text, tell(x, text), -1);
        due("5 fault of " + text, x.fault(0), fault);
        due("5 place of " + text, x.fault(1), place);
    }

    /** These numbers lie there, and no others. */
    void lie(String call, FaithfulStools x, int... numbers) {
        due(call + " count", x.about(12), numbers.length);
        for (int i = 0; i < numbers.length; i++) {
            due(call + " lies " + i, x.lies(i), numbers[i]);
        }
        for (int none : new int[] {-1, numbers.length, numbers.length + 1, LOW, HIGH}) {
            due(call + " lies not " + none, x.lies(none), -2);
        }
    }

    /** Ends the program with exit code 1 if an answer was wrong. */
    void close(String name) {
        System.out.println(name + ": " + made + " answers, " + wrong + " wrong");
        if (wrong != 0) {
            System.exit(1);
        }
    }

    /** Feeds bytes behind what is on the tape, which must leave room for whole twenties. */
    static void feed(FaithfulStools x, byte[] bytes) {
        int before = x.about(10);
        for (int i = 0; i < bytes.length; i += 20) {
            byte[] part = Arrays.copyOf(Arrays.copyOfRange(bytes, i, Math.min(bytes.length, i + 20)), 20);
            x.feed(word(part, 0), word(part, 4), word(part, 8), word(part, 12), word(part, 16));
        }
        x.end(before + bytes.length);
    }

    static int tell(FaithfulStools x, String text) {
        feed(x, text.getBytes(StandardCharsets.ISO_8859_1));
        return x.chapel();
    }

    /** A new object with this chapel. */
    static FaithfulStools told(String text) {
        FaithfulStools x = new FaithfulStools();
        if (tell(x, text) < 0) {
            throw new IllegalStateException("fault " + x.fault(0) + " at " + x.fault(1) + " in " + text);
        }
        return x;
    }

    private static int word(byte[] b, int at) {
        return (b[at] & 255) << 24 | (b[at + 1] & 255) << 16 | (b[at + 2] & 255) << 8 | (b[at + 3] & 255);
    }
}
