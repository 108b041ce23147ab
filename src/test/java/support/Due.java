import java.util.Arrays;
import java.util.function.IntUnaryOperator;

/** Checks of answers, and ways to put bytes on a tape. */
final class Due {
    private static int wrong;
    private static int checks;

    private Due() {
    }

    static void due(int promise, String call, long got, long want) {
        due("Promise " + promise, call, got, want);
    }

    /** The sentence names the promise, or the number of the Terms. */
    static void due(String sentence, String call, long got, long want) {
        checks++;
        if (got != want) {
            wrong++;
            System.out.println(sentence + ": " + call + " answered " + got + ", due is " + want);
        }
    }

    /** The last numbers that can be, on both sides, and the first that can't. */
    static void within(String sentence, int least, int most, IntUnaryOperator call, IntUnaryOperator told, int refused) {
        for (int can : new int[] {least, most}) {
            due(sentence, "with " + can, call.applyAsInt(can), told.applyAsInt(can));
        }
        for (int cannot : new int[] {least - 1, most + 1, Integer.MIN_VALUE, Integer.MAX_VALUE}) {
            due(sentence, "with " + cannot, call.applyAsInt(cannot), refused);
        }
    }

    /** Puts a text on an empty tape. */
    static void write(LostLanes x, String text) {
        int[] bytes = new int[text.length()];
        for (int i = 0; i < bytes.length; i++) {
            bytes[i] = text.charAt(i);
        }
        writeBytes(x, bytes);
    }

    static void writeBytes(LostLanes x, int... bytes) {
        int[] padded = Arrays.copyOf(bytes, (bytes.length + 19) / 20 * 20);
        for (int i = 0; i < padded.length; i += 20) {
            x.feed(four(padded, i), four(padded, i + 4), four(padded, i + 8), four(padded, i + 12), four(padded, i + 16));
        }
        x.end(bytes.length);
    }

    static int law(LostLanes x, String text) {
        write(x, text);
        return x.law();
    }

    static int orders(LostLanes x, String text) {
        write(x, text);
        return x.orders();
    }

    private static int four(int[] bytes, int i) {
        return bytes[i] << 24 | bytes[i + 1] << 16 | bytes[i + 2] << 8 | bytes[i + 3];
    }

    static int checks() {
        return checks;
    }

    static void close() {
        System.out.println(checks + " checks, " + wrong + " wrong");
        if (wrong != 0 || checks == 0) {
            System.exit(1);
        }
    }
}
