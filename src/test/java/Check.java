import java.nio.charset.StandardCharsets;
import java.util.NoSuchElementException;
import java.util.function.LongSupplier;

/** What the tests share: due answers, due exceptions, texts fed to the tape. */
final class Check {
    static final long NO_SUCH = Long.MIN_VALUE;
    static final long ILLEGAL = Long.MIN_VALUE + 1;

    private static int checked = 0;
    private static int wrong = 0;

    private Check() {
    }

    static int checkedSoFar() {
        return checked;
    }

    static void due(String call, long got, long want) {
        checked++;
        if (got != want) {
            wrong++;
            if (wrong <= 40) {
                System.out.println(call + " answered " + named(got) + ", due is " + named(want));
            }
        }
    }

    static void due(String call, boolean got, boolean want) {
        due(call, got ? 1 : 0, want ? 1 : 0);
    }

    /** The call's answer, or which of the two exceptions of the document it throws. */
    static long answer(LongSupplier call) {
        try {
            return call.getAsLong();
        } catch (NoSuchElementException e) {
            return NO_SUCH;
        } catch (IllegalArgumentException e) {
            return ILLEGAL;
        }
    }

    static void noSuch(String name, LongSupplier call) {
        due(name, answer(call), NO_SUCH);
    }

    static void illegal(String name, LongSupplier call) {
        due(name, answer(call), ILLEGAL);
    }

    static byte[] bytesOf(String text) {
        return text.getBytes(StandardCharsets.ISO_8859_1);
    }

    /** Feeds a text, filled up with blanks to a multiple of twenty bytes: the text's length. */
    static int feedText(BarredSuits x, String text) {
        byte[] bytes = bytesOf(text);
        for (int at = 0; at < bytes.length; at += 20) {
            int[] numbers = new int[5];
            for (int i = 0; i < 20; i++) {
                int b = at + i < bytes.length ? bytes[at + i] & 255 : 32;
                numbers[i / 4] = numbers[i / 4] << 8 | b;
            }
            x.feed(numbers[0], numbers[1], numbers[2], numbers[3], numbers[4]);
        }
        return bytes.length;
    }

    static int desk(BarredSuits x, String text) {
        return x.desk(feedText(x, text));
    }

    static int ask(BarredSuits x, String text) {
        return x.ask(feedText(x, text));
    }

    static BarredSuits told(String text) {
        BarredSuits x = new BarredSuits();
        int answer = desk(x, text);
        due("a text without faults: " + text, answer >= 0, true);
        return x;
    }

    static String saidText(BarredSuits x, int length) {
        StringBuilder text = new StringBuilder();
        for (int i = 0; i < length; i++) {
            text.append((char) x.said(i));
        }
        return text.toString();
    }

    private static String named(long answer) {
        if (answer == NO_SUCH) {
            return "throws.NoSuchElementException";
        }
        return answer == ILLEGAL ? "throws.IllegalArgumentException" : Long.toString(answer);
    }

    static void finish(String test) {
        System.out.println(test + ": " + checked + " checked, " + wrong + " wrong");
        if (wrong != 0 || checked == 0) {
            System.exit(1);
        }
    }
}
