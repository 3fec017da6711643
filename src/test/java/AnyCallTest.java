import java.lang.reflect.InvocationTargetException;
import java.lang.reflect.Method;
import java.util.ArrayList;
import java.util.Comparator;
import java.util.List;
import java.util.NoSuchElementException;
import java.util.Random;

/**
 * "A call of the face throws exactly what and where the document says, and nothing else": every call, with
 * numbers at and beyond every boundary, in HALLS from the least to the most, with any bytes on the tape.
 */
public final class AnyCallTest extends Ask {
    private static final int[] NUMBERS = {Integer.MIN_VALUE, Integer.MIN_VALUE + 1, -1001, -1000, -33, -32, -31, -2, -1,
        0, 1, 2, 3, 4, 5, 6, 7, 8, 9, 10, 19, 20, 21, 29, 30, 31, 32, 33, 59, 60, 61, 63, 64, 98, 99, 100, 399, 400,
        401, 939, 940, 941, 998, 999, 1000, Integer.MAX_VALUE - 1, Integer.MAX_VALUE};
    private static final String[] HALLS = {"", "chairs 2;", "chairs 9;" + dishes(6, 99), ALONE, TWO, THREE, POOR, FULL,
        "chairs 2;" + guests(2, 0, 9), "chairs 7;" + guests(7, 0, 1) + dishes(1, 1)};
    private static final List<Method> FACE = face();

    private static List<Method> face() {
        List<Method> all = new ArrayList<>();
        for (Method m : LastSeat.class.getDeclaredMethods()) {
            if (java.lang.reflect.Modifier.isPublic(m.getModifiers())) all.add(m);
        }
        all.sort(Comparator.comparing(Method::getName));
        return all;
    }

    /** Only guest() and mean() may throw, and only a NoSuchElementException. */
    private static void call(LastSeat x, Method m, Object... args) throws Exception {
        boolean good = true;
        Throwable thrown = null;
        try {
            m.invoke(x, args);
        } catch (InvocationTargetException e) {
            thrown = e.getCause();
            boolean may = m.getName().equals("guest") || m.getName().equals("mean");
            good = may && thrown.getClass() == NoSuchElementException.class;
        }
        if (!good) due(m.getName() + java.util.Arrays.toString(args) + " throws no " + thrown, true, false);
    }

    private static LastSeat object(Random r) {
        LastSeat x = new LastSeat();
        hall(x, HALLS[r.nextInt(HALLS.length)]);
        if (r.nextInt(4) == 0) allRounds(x, 390 + r.nextInt(20));
        if (r.nextInt(2) == 0) sentence(x, "not (number < 1 or by a and weary) or for b");
        return x;
    }

    /** Each call with each number, then with any of them. */
    static void p1_eachNumber() throws Exception {
        Random r = new Random(1);
        LastSeat x = object(r);
        int calls = 0;
        for (Method m : FACE) {
            int places = m.getParameterCount();
            for (int i = 0; i < places * NUMBERS.length || i < 20; i++) {
                Object[] args = new Object[places];
                for (int k = 0; k < places; k++) args[k] = NUMBERS[r.nextInt(NUMBERS.length)];
                if (places > 0) args[i / NUMBERS.length % places] = NUMBERS[i % NUMBERS.length];
                call(x, m, args);
                if (++calls % 100 == 0) x = object(r);
            }
        }
        due("all were called", true, calls > 2000);
    }

    /** Any calls in a row, most of them with small numbers, so that much is done. */
    static void p1_anyCalls() throws Exception {
        Random r = new Random(2);
        for (int run = 0; run < 400; run++) {
            LastSeat x = object(r);
            for (int k = 0; k < 300; k++) {
                Method m = FACE.get(r.nextInt(FACE.size()));
                Object[] args = new Object[m.getParameterCount()];
                for (int i = 0; i < args.length; i++) args[i] = r.nextInt(8) == 0 ? NUMBERS[r.nextInt(NUMBERS.length)] : r.nextInt(9);
                call(x, m, args);
            }
        }
        due("they ended", true, true);
    }

    /** Any bytes, of any size up to a full tape, for each call that reads the tape. */
    static void p2_anyBytes() throws Exception {
        Random r = new Random(3);
        String likely = "chairsguestdishpay;;;; \n  ()<=>0123456789notandor";
        for (int run = 0; run < 3000; run++) {
            LastSeat x = object(r);
            StringBuilder b = new StringBuilder();
            int size = r.nextInt(6) == 0 ? 900 + r.nextInt(41) : r.nextInt(60);
            for (int i = 0; i < size; i++) b.append(r.nextInt(3) == 0 ? (char) r.nextInt(256) : likely.charAt(r.nextInt(likely.length())));
            Check.tape(x, b.toString());
            String[] readers = {"hall", "book", "sentence", "gone", "proud"};
            String name = readers[r.nextInt(5)];
            for (Method m : FACE) if (m.getName().equals(name)) call(x, m, name.equals("book") ? new Object[] {r.nextInt(2)} : new Object[0]);
            due("the tape is empty", 0, x.count(3));
        }
    }

    public static void main(String[] args) throws Exception {
        runAll(AnyCallTest.class);
    }
}
