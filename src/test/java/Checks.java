import java.nio.charset.StandardCharsets;

/** What the tests share: counting of answers that are not as due, and the ERRORS by name. */
final class Checks {
    static final int BEYOND = -1000000001;
    static final int NONE = -1000000002;
    static final int STATE = -1000000003;
    static final int FULL = -1000000004;
    static final int KIND = -1000000005;

    private static int asked = 0;
    private static int wrong = 0;

    private Checks() {
    }

    static void due(String what, long got, long want) {
        asked++;
        if (got != want) {
            wrong++;
            System.out.println(what + " answered " + got + ", due is " + want);
        }
    }

    static void dueTrue(String what, boolean holds) {
        due(what, holds ? 1 : 0, 1);
    }

    /** Ends the run: with exit code 1 if an answer was not as due, or if nothing was asked. */
    static void end(String test) {
        System.out.println(test + ": " + asked + " answers asked, " + wrong + " not as due");
        if (wrong != 0 || asked == 0) {
            System.exit(1);
        }
    }

    /** Feeds the bytes of a text, up to eight a call; answers what the last feed() answered. */
    static int feed(WellTold x, String text) {
        byte[] bytes = text.getBytes(StandardCharsets.ISO_8859_1);
        int answer = 0;
        for (int i = 0; i < bytes.length; i += 8) {
            int n = Math.min(8, bytes.length - i);
            long word = 0;
            for (int k = n - 1; k >= 0; k--) {
                word = word << 8 | bytes[i + k] & 255;
            }
            answer = x.feed(word, n);
        }
        return answer;
    }

    static int text(WellTold x, int use, String text) {
        feed(x, text);
        return x.text(use);
    }
}
