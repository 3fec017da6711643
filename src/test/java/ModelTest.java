import java.util.ArrayList;
import java.util.List;
import java.util.Random;

/** LastSeat against Model, call by call, in runs of calls that are drawn (by fixed seeds). */
public final class ModelTest {
    private static final String[] CALLS = {"hall", "fault", "guest", "chair", "now", "sit", "rise", "serve", "hide",
        "show", "rounds", "undo", "next", "nextIn", "linger", "trick", "tricking", "push", "pushing", "safe", "hosts",
        "hostAt", "gone", "when", "menu", "menuOf", "proud", "watch", "mean", "plate", "byteAt", "drawn", "odds",
        "book", "told", "sentence", "said", "image", "restore", "count", "end"};
    private static final String[] NAMES = {"ann", "bob", "cy", "d", "eve", "fay", "gus", "soup", "ale", "pie", "egg",
        "ham", "jam", "zzzzzzz"};
    private static final String[] BITS = {"chairs", "guest", "dish", "pays", "sits", "rises", "serve", "hide", "show",
        "round", "or", "and", "not", "seated", "ruined", "weary", "by", "for", "coins", "tired", "hosted", "number",
        ";", "<", "=", ">", "(", ")", ".", "0", "9", "10", "999", "1000", "abcdefgh", "a1", "1a", "X", "ann", "soup",
        "", "\n", " ", "\t", "\u00e9", "\u0000"};

    private final Random r;
    private final LastSeat x = new LastSeat();
    private final Model m = new Model();
    private final List<String> told = new ArrayList<>();
    private int calls = 0;
    private boolean wrong = false;

    private ModelTest(long seed) {
        r = new Random(seed);
    }

    private int any(int n) {
        return r.nextInt(n);
    }

    private String pick(String... of) {
        return of[any(of.length)];
    }

    private Object ask(Object of, String name, int... a) throws Exception {
        Class<?>[] types = new Class<?>[a.length];
        Object[] args = new Object[a.length];
        for (int i = 0; i < a.length; i++) {
            types[i] = int.class;
            args[i] = a[i];
        }
        try {
            return of.getClass().getMethod(name, types).invoke(of, args);
        } catch (java.lang.reflect.InvocationTargetException e) {
            return e.getCause().getClass().getName();
        }
    }

    private Object call(String name, int... a) throws Exception {
        calls++;
        Object want = ask(m, name, a);
        Object got = ask(x, name, a);
        told.add(name + java.util.Arrays.toString(a) + " " + got);
        if (!want.equals(got)) {
            wrong = true;
            told.add("  due is " + want);
        }
        Check.due(name, true, want.equals(got));
        return got;
    }

    private void text(String s) throws Exception {
        told.add("text: " + s);
        int[] n = Check.numbers(s);
        for (int i = 0; i < n.length; i += 5) {
            call("feed", n[i], n[i + 1], n[i + 2], n[i + 3], n[i + 4]);
        }
        call("end", s.length());
    }

    private String gap() {
        return any(6) == 0 ? pick("  ", "\n", " \n ") : " ";
    }

    private String hallText() {
        StringBuilder b = new StringBuilder();
        int chairs = any(4) == 0 ? 6 : 2 + any(8);
        if (chairs != 6) b.append("chairs").append(gap()).append(chairs).append(";");
        int guests = Math.min(chairs, any(8) + (any(20) == 0 ? 1 : 0));
        if (any(4) > 0) guests = Math.min(chairs, Math.max(2, guests));
        int dishes = any(7);
        boolean fast = any(3) > 0;
        for (int g = 0; g < guests; g++) {
            b.append("guest").append(gap()).append(NAMES[g]).append(" ").append(any(3) == 0 ? any(1000) : any(120));
            b.append(gap()).append(fast ? any(5) : any(10)).append(" ").append(any(fast ? 4 : 10)).append(" ");
            b.append(any(chairs)).append(any(5) == 0 ? " ; " : ";");
        }
        for (int d = 0; d < dishes; d++) {
            b.append("dish ").append(NAMES[7 + d]).append(" ").append(1 + any(any(2) == 0 ? 99 : 20)).append(";");
        }
        for (int g = 0; g < guests; g++) {
            int p = any(Math.max(1, guests));
            if (any(3) == 0 && p != g) b.append("pays ").append(NAMES[p]).append(" ").append(NAMES[g]).append(";");
        }
        return b.toString();
    }

    private String bookText() {
        StringBuilder b = new StringBuilder();
        int lines = any(5) == 0 ? 35 + any(8) : any(8);
        for (int i = 0; i < lines; i++) {
            int k = lines > 20 ? any(2) : any(8);
            if (k < 3) b.append(NAMES[any(3)]).append(pick(" sits", " rises"));
            else if (k == 3) b.append("serve ").append(NAMES[7 + any(3)]);
            else if (k == 4) b.append("hide ").append(any(9));
            else if (k == 5) b.append("show ").append(any(9));
            else b.append("round ").append(any(3) == 0 ? 1 + any(60) : 1 + any(3));
            b.append(";");
        }
        return b.toString();
    }

    private String oneText(int within) {
        int k = any(within > 8 ? 7 : 11);
        if (k == 0) return "seated";
        if (k == 1) return "ruined";
        if (k == 2) return "weary";
        if (k == 3) return "by " + NAMES[any(3)];
        if (k == 4) return "for " + NAMES[any(3)];
        if (k < 7) return pick("coins", "tired", "hosted", "number") + pick("<", "=", ">", " > ") + (any(2) == 0 ? any(4) : any(100));
        if (k < 9) return "not " + oneText(within + 1);
        return "(" + condText(within + 1) + ")";
    }

    private String condText(int within) {
        StringBuilder b = new StringBuilder(oneText(within));
        for (int i = any(within == 1 ? 4 : 2); i > 0; i--) b.append(pick(" and ", " or ", " or not ")).append(oneText(within));
        return b.toString();
    }

    private String harmed(String s) {
        StringBuilder b = new StringBuilder(s);
        for (int i = any(5) == 0 ? 2 : 1; i > 0; i--) {
            int at = any(b.length() + 1);
            switch (any(6)) {
                case 5: {
                    // a digit more makes a NUMBER too large more often than not
                    int digit = at;
                    while (digit < b.length() && !Character.isDigit(b.charAt(digit))) digit++;
                    b.insert(digit, any(10));
                    break;
                }
                case 0: b.insert(at, pick(BITS)); break;
                case 1: b.insert(at, " " + pick(BITS) + " "); break;
                case 2: b.delete(at, Math.min(b.length(), at + 1 + any(4))); break;
                case 3: b.setLength(at); break;
                default: b.replace(at, Math.min(b.length(), at + 1), pick(BITS));
            }
        }
        return b.toString();
    }

    /** Fills a text up so that it ends round the most bytes of its sort. */
    private String filled(String s, int most) {
        StringBuilder b = new StringBuilder(s);
        int size = most - 8 + any(16);
        if (any(2) == 0) {
            while (b.length() < size) b.append(pick(" ", "\n"));
            if (any(2) == 0) b.append(pick(BITS));
        } else {
            while (b.length() < size) b.insert(0, pick(" ", "\n"));
        }
        if (b.length() > 940) b.setLength(940);
        return b.toString();
    }

    private String maybeHarmed(String s, int most) {
        int k = any(8);
        String t = k == 0 || k == 1 ? harmed(s) : k == 2 && any(2) == 0 ? filled(any(2) == 0 ? s : harmed(s), most) : s;
        return t.length() > 940 ? t.substring(0, 940) : t;
    }

    private int small() {
        int k = any(20);
        return k == 0 ? -1 : k == 1 ? pickEdge() : any(k < 12 ? 3 : 10);
    }

    private int pickEdge() {
        int[] edges = {Integer.MIN_VALUE, Integer.MAX_VALUE, -2, 31, 32, 33, 64, 9, 10, 60, 61, 1000};
        return edges[any(edges.length)];
    }

    private void step() throws Exception {
        String name = CALLS[any(CALLS.length)];
        switch (name) {
            case "hall":
                if (any(2) == 0) {
                    text(any(2) == 0 ? harmed(hallText()) : maybeHarmed(hallText(), 900));
                    call("hall");
                    call("fault");
                }
                break;
            case "book":
                text(maybeHarmed(bookText(), 400));
                call("book", any(12) == 0 ? pickEdge() : any(3) % 2);
                call("fault");
                for (int i = -1; i < 5; i++) call("told", i);
                call("end", 0);
                break;
            case "sentence":
                text(maybeHarmed(condText(1), 200));
                call("sentence");
                call("fault");
                break;
            case "gone": {
                Object sit = call("now", 1);
                text(pick("", "", "", "x", "\u0000").isEmpty()
                        ? "" + (char) (any(11)) + (char) (any(3) == 0 ? (Integer) sit : any(16)) : pick("a", "\u0001\u0002\u0003"));
                call("gone");
                break;
            }
            case "proud": {
                StringBuilder b = new StringBuilder();
                int t = any(10);
                for (int i = any(any(3) == 0 ? 10 : 3); i >= 0; i--) {
                    int u = any(12);
                    b.append((char) (any(30) == 0 ? any(256) : u)).append((char) (any(40) == 0 ? 2 : any(10) == 0 ? any(2) : u >= t ? 1 : 0));
                }
                if (any(15) == 0) b.append('a');
                text(b.toString());
                call("proud");
                call("watch");
                break;
            }
            case "guest": call(name, small(), any(12) - 1); break;
            case "chair": call(name, small(), any(5) - 1); break;
            case "when": call(name, small(), small()); break;
            case "now": call(name, any(10) - 1); break;
            case "count": call(name, any(6) - 1); break;
            case "mean": call(name, any(4) - 1); break;
            case "told": call(name, any(6) - 1); break;
            case "image":
            case "restore": if (any(3) == 0) call(name, any(5) == 0 ? small() : any(2)); break;
            case "rounds": call(name, any(6) == 0 ? small() : any(8) == 0 ? any(63) : 1 + any(3)); break;
            case "drawn": call(name, any(6) == 0 ? any(63) : 1 + any(3), r.nextInt()); break;
            case "odds": call(name, small(), any(6) == 0 ? pickEdge() : any(33), any(20) == 0 ? Integer.MAX_VALUE : r.nextInt()); break;
            case "hosts": call(name, any(8) == 0 ? any(1003) - 1 : 1 + any(60)); break;
            case "hostAt": call(name, any(3) == 0 ? any(101) : small()); break;
            case "byteAt": call(name, any(34) - 1); break;
            case "said": call(name, any(9) - 2); break;
            case "end": call(name, any(2) == 0 ? small() : any(60)); break;
            case "trick":
                call(name, small());
                call("tricking");
                break;
            case "push":
                call(name, small());
                call("pushing");
                break;
            case "sit": case "rise": case "serve": case "hide": case "show": case "linger": case "safe": case "plate":
                call(name, small());
                break;
            default: call(name);
        }
    }

    private void lookAtAll() throws Exception {
        for (int i = 0; i < 8; i++) call("now", i);
        for (int g = 0; g < 8; g++) for (int i = 0; i < 10; i++) call("guest", g, i);
        for (int g = 0; g < 8; g++) {
            int n = (Integer) call("plate", g);
            for (int i = 0; i <= n; i++) call("byteAt", i);
        }
        for (int c = 0; c < 9; c++) for (int i = 0; i < 3; i++) call("chair", c, i);
        for (int k = -1; k < 8; k++) call("said", k);
    }

    private void run() throws Exception {
        text(hallText());
        call("hall");
        if (any(6) == 0) for (int i = 0; i < 6 + any(2); i++) call("rounds", 60);
        for (int i = 0; i < 90 && !wrong; i++) step();
        if (!wrong) lookAtAll();
        if (wrong) for (String s : told) System.out.println(s);
    }

    public static void main(String[] args) throws Exception {
        int runs = args.length > 0 ? Integer.parseInt(args[0]) : 3000;
        long first = args.length > 1 ? Long.parseLong(args[1]) : 1;
        for (long seed = first; seed < first + runs && Check.wrong() == 0; seed++) {
            new ModelTest(seed).run();
        }
        Check.finish();
    }
}
