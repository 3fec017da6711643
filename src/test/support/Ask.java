import java.lang.reflect.InvocationTargetException;
import java.lang.reflect.Method;
import java.lang.reflect.Modifier;
import java.util.ArrayList;
import java.util.Comparator;
import java.util.List;
import java.util.NoSuchElementException;

/**
 * What the tests of single promises share: HALLS told by texts, answers as one value, and a runner
 * that takes every method named after its promise (p7, p07_noSuchChair) as a test.
 */
class Ask {
    static final int NONE = LastSeat.NONE;
    /** Stands for a NoSuchElementException. */
    static final int THROWN = -777;

    /** Round 1: ann sits at 1. Round 3: bob sits at 3, and cy, who pays for bob and himself, is HOST. */
    static final String THREE = "chairs 4;guest ann 50 1 1 0;guest bob 20 3 1 0;guest cy 100 9 0 2;"
            + "dish soup 30;dish ale 8;pays cy bob;";
    /** Round 1: a sits at 1, and b is HOST. */
    static final String TWO = "chairs 3;guest a 9 1 1 0;guest b 9 1 1 1;dish x 5;dish y 7;";
    /** Nobody else is there, so there is never a HOST. Round 1: at 3. Round 2: he sits at 0. */
    static final String ALONE = "chairs 5;guest solo 7 2 2 1;dish x 5;";
    /** If a sits when x is SERVED, b, who has 1 coin, pays it and owes 1. */
    static final String POOR = "chairs 2;guest a 0 9 0 0;guest b 1 9 0 1;dish x 2;";
    /** Nine CHAIRS, seven GUESTS a to g at CHAIRS 0 to 6, who stay and are too proud to sit; six DISHES. */
    static final String FULL = "chairs 9;" + guests(7, 9, 0) + dishes(6, 99);

    private static String at = "";

    static void due(String call, long want, long got) {
        Check.due(at + call, want, got);
    }

    static void due(String call, boolean want, boolean got) {
        Check.due(at + call, want, got);
    }

    static void same(String what, String want, String got) {
        due(what + " <" + got + ">, <" + want + "> is due,", true, want.equals(got));
    }

    /** GUESTS a, b, .. without coins at CHAIRS 0, 1, .. */
    static String guests(int n, int pride, int speed) {
        StringBuilder b = new StringBuilder();
        for (int g = 0; g < n; g++) {
            b.append("guest ").append((char) ('a' + g)).append(" 0 ").append(pride).append(' ').append(speed)
                    .append(' ').append(g).append(';');
        }
        return b.toString();
    }

    /** DISHES m, n, .. */
    static String dishes(int n, int cost) {
        StringBuilder b = new StringBuilder();
        for (int d = 0; d < n; d++) b.append("dish ").append((char) ('m' + d)).append(' ').append(cost).append(';');
        return b.toString();
    }

    static String times(String s, int n) {
        return s.repeat(n);
    }

    static String blanks(int n) {
        return " ".repeat(n);
    }

    static LastSeat hall(String text) {
        LastSeat x = new LastSeat();
        Check.tape(x, text);
        x.hall();
        due("fault of a good HALL", 0, x.fault());
        return x;
    }

    static int hall(LastSeat x, String text) {
        Check.tape(x, text);
        return x.hall();
    }

    static int book(LastSeat x, String text, int lives) {
        Check.tape(x, text);
        return x.book(lives);
    }

    static int sentence(LastSeat x, String text) {
        Check.tape(x, text);
        return x.sentence();
    }

    static int gone(LastSeat x, String text) {
        Check.tape(x, text);
        int answer = x.gone();
        due("gone() leaves the tape empty", 0, x.count(3));
        return answer;
    }

    static int gone(LastSeat x, int rounds, int guests) {
        return gone(x, "" + (char) rounds + (char) guests);
    }

    static int proud(LastSeat x, String text) {
        Check.tape(x, text);
        int answer = x.proud();
        due("proud() leaves the tape empty", 0, x.count(3));
        return answer;
    }

    /** A text that is no HALL: where its FAULT is, of which kind, and that all stays but for the tape. */
    static void badHall(String text, int place, int kind) {
        LastSeat x = hall(TWO);
        x.sit(0);
        Check.tape(x, text);
        due("hall() of " + text, -1 - place, x.hall());
        due("its fault()", kind, x.fault());
        due("its tape", 0, x.count(3));
        due("the HALL stays", 3, x.count(0));
        due("what was so stays", 1, x.now(4));
    }

    /** Likewise for a BOOK in the HALL of THREE. */
    static void badBook(String text, int place, int kind) {
        LastSeat x = hall(THREE);
        due("book() of " + text, -2 - place, book(x, text, 1));
        due("its fault()", kind, x.fault());
        due("its tape", 0, x.count(3));
        due("nothing was lived", 0, x.now(0) + x.now(1) + x.now(5));
        due("told() by no book", NONE, x.told(0));
    }

    /** Likewise for a SENTENCE in the HALL of THREE. */
    static void badSentence(String text, int place, int kind) {
        LastSeat x = hall(THREE);
        due("a good one first", 1, sentence(x, "number = 1"));
        due("sentence() of " + text, -1 - place, sentence(x, text));
        due("its fault()", kind, x.fault());
        due("its tape", 0, x.count(3));
        due("the SENTENCE stays", 1, x.said(0));
    }

    /** GUESTS of whom a SENTENCE may be said, as bits. */
    static int saidOf(LastSeat x, String text) {
        if (sentence(x, text) < 1) return -100 - x.fault();
        int bits = 0;
        for (int k = 0; k < x.said(NONE); k++) bits |= 1 << x.said(k);
        return bits;
    }

    static int guestOr(LastSeat x, int g, int what) {
        try {
            return x.guest(g, what);
        } catch (NoSuchElementException e) {
            return THROWN;
        }
    }

    static int meanOr(LastSeat x, int what) {
        try {
            return x.mean(what);
        } catch (NoSuchElementException e) {
            return THROWN;
        }
    }

    static String plate(LastSeat x, int g) {
        int n = x.plate(g);
        StringBuilder b = new StringBuilder();
        for (int i = 0; i < n; i++) b.append((char) x.byteAt(i));
        return b.toString();
    }

    static void allRounds(LastSeat x, int n) {
        for (int left = n; left > 0; left -= 60) x.rounds(Math.min(left, 60));
    }

    /** All that is so, in one text: two objects of which it is the same are alike to every call. */
    static String stateOf(LastSeat x) {
        StringBuilder b = new StringBuilder();
        for (int i = 0; i < 3; i++) b.append(x.count(i)).append(' ');
        for (int i = 0; i < 8; i++) b.append(x.now(i)).append(' ');
        for (int g = 0; g < x.count(1); g++) {
            b.append('|');
            for (int i = 0; i < 10; i++) b.append(x.guest(g, i)).append(' ');
        }
        for (int k = NONE; k < x.count(1); k++) b.append(k < 0 ? '|' : ' ').append(x.said(k));
        return b.toString();
    }

    private static boolean isTest(Method m) {
        return Modifier.isStatic(m.getModifiers()) && m.getName().matches("p\\d+(_\\w+)?");
    }

    private static int promiseOf(Method m) {
        return Integer.parseInt(m.getName().substring(1).split("_")[0]);
    }

    static void runAll(Class<?> tests) throws Exception {
        List<Method> all = new ArrayList<>();
        for (Method m : tests.getDeclaredMethods()) if (isTest(m)) all.add(m);
        all.sort(Comparator.comparingInt(Ask::promiseOf).thenComparing(Method::getName));
        for (Method m : all) {
            at = tests.getName() + "." + m.getName() + ": ";
            int before = Check.asked();
            try {
                m.setAccessible(true);
                m.invoke(null);
            } catch (InvocationTargetException e) {
                due("ends without " + e.getCause(), true, false);
            }
            if (Check.asked() == before) due("looks at an answer", true, false);
        }
        at = "";
        Check.finish();
    }
}
