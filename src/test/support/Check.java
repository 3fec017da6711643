/** Compares answers with what is due, prints what is not, and ends a test by its exit code. */
public final class Check {
    private static int wrong = 0;
    private static int asked = 0;

    static void due(String what, long want, long got) {
        asked++;
        if (want != got) {
            wrong++;
            System.out.println(what + " answered " + got + ", due is " + want);
        }
    }

    static void due(String what, boolean want, boolean got) {
        due(what, want ? 1 : 0, got ? 1 : 0);
    }

    static int wrong() {
        return wrong;
    }

    static int asked() {
        return asked;
    }

    /** A text's bytes as the numbers that feed() takes, twenty bytes a row, zeros behind. */
    static int[] numbers(String text) {
        int[] n = new int[(text.length() + 19) / 20 * 5];
        for (int i = 0; i < text.length(); i++) {
            n[i / 4] |= (text.charAt(i) & 255) << 24 - i % 4 * 8;
        }
        return n;
    }

    /** The tape, empty ahead of it, is the text then. */
    static void tape(LastSeat x, String text) {
        x.end(0);
        int[] n = numbers(text);
        for (int i = 0; i < n.length; i += 5) {
            x.feed(n[i], n[i + 1], n[i + 2], n[i + 3], n[i + 4]);
        }
        x.end(text.length());
    }

    static void finish() {
        System.out.println(asked + " answers looked at, " + wrong + " not as due");
        if (wrong != 0 || asked == 0) {
            System.exit(1);
        }
    }
}
