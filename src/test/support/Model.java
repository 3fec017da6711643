import java.util.ArrayDeque;
import java.util.ArrayList;
import java.util.Arrays;
import java.util.Deque;
import java.util.LinkedHashMap;
import java.util.List;
import java.util.Map;
import java.util.NoSuchElementException;
import java.util.Set;
import java.util.function.IntPredicate;
import java.util.regex.Matcher;
import java.util.regex.Pattern;

/**
 * The document told a second time, slowly and with the whole Java library, with nothing of
 * LastSeat's own code: ModelTest compares the two call by call.
 */
public final class Model {
    static final int NONE = -1;
    static final Set<String> KEYS = Set.of("chairs", "guest", "dish", "pays", "sits", "rises", "serve", "hide",
            "show", "round", "or", "and", "not", "seated", "ruined", "weary", "by", "for", "coins", "tired",
            "hosted", "number");

    static final class Fault extends RuntimeException {
        private static final long serialVersionUID = 1L;
        final int kind;
        final int at;

        Fault(int kind, int at) {
            super(null, null, false, false);
            this.kind = kind;
            this.at = at;
        }
    }

    record Token(String text, int at) {
        boolean isWord() { return text.matches("[a-z]{1,7}"); }
        boolean isName() { return isWord() && !KEYS.contains(text); }
        boolean isNumber() { return text.matches("[0-9]{1,3}"); }
    }

    /** TOKENS in a row; "" is the end, "!" is what is no TOKEN. */
    static final class Tokens {
        final List<Token> all = new ArrayList<>();
        int i = 0;

        Tokens(String text, int most) {
            Matcher m = Pattern.compile("[a-z0-9]+|[^ \n]", Pattern.DOTALL).matcher(text);
            while (m.find()) {
                if (text.length() > most && m.start() >= most) {
                    break;
                }
                boolean good = m.group().matches("[a-z]{1,7}|[0-9]{1,3}|[;<=>()]");
                all.add(new Token(good ? m.group() : "!", m.start()));
            }
            all.add(text.length() > most ? new Token("!", most) : new Token("", text.length()));
        }

        Token look() { return all.get(i); }
        Token take() { return all.get(i++); }
        boolean atEnd() { return look().text.isEmpty(); }
        boolean is(String s) { return look().text.equals(s); }

        Fault fault(int kind) { return new Fault(kind, look().at); }

        void need(String s) {
            if (!is(s)) throw fault(1);
            take();
        }

        int number(int low, int high) {
            if (!look().isNumber()) throw fault(1);
            int n = Integer.parseInt(look().text);
            if (n < low || n > high) throw fault(2);
            take();
            return n;
        }

        int named(List<String> names) {
            if (!look().isName()) throw fault(1);
            int k = names.indexOf(look().text);
            if (k < 0) throw fault(3);
            take();
            return k;
        }
    }

    static final class Person {
        int coins, pride, speed, chair, payer, tired, hosted, owes, paid;
        boolean sits;

        Person copy() {
            Person p = new Person();
            p.coins = coins; p.pride = pride; p.speed = speed; p.chair = chair; p.payer = payer;
            p.tired = tired; p.hosted = hosted; p.owes = owes; p.paid = paid; p.sits = sits;
            return p;
        }
    }

    static final class World {
        int chairs = 6;
        List<String> names = new ArrayList<>();
        List<Person> people = new ArrayList<>();
        Map<String, Integer> dishes = new LinkedHashMap<>();
        boolean[] hidden = new boolean[9];
        boolean[] served = new boolean[6];
        int round = 0, over = 0, host = NONE, paidInAll = 0;

        World copy() {
            World w = new World();
            w.chairs = chairs;
            w.names = names;
            w.dishes = dishes;
            for (Person p : people) w.people.add(p.copy());
            w.hidden = hidden.clone();
            w.served = served.clone();
            w.round = round; w.over = over; w.host = host; w.paidInAll = paidInAll;
            return w;
        }

        List<String> dishNames() { return new ArrayList<>(dishes.keySet()); }
        List<Integer> costs() { return new ArrayList<>(dishes.values()); }

        int bill() {
            int sum = 0;
            for (int d = 0; d < dishes.size(); d++) if (served[d]) sum += costs().get(d);
            return sum;
        }

        int sitter(int c) {
            for (int g = 0; g < people.size(); g++) if (people.get(g).sits && people.get(g).chair == c) return g;
            return NONE;
        }

        int sittingBits() {
            int bits = 0;
            for (int g = 0; g < people.size(); g++) if (people.get(g).sits) bits += 1 << g;
            return bits;
        }

        int trySit(int g) {
            Person p = people.get(g);
            if (p.sits) return 1;
            if (sitter(p.chair) != NONE) return 2;
            if (hidden[p.chair]) return 3;
            p.sits = true;
            List<Integer> standing = new ArrayList<>();
            for (int h = 0; h < people.size(); h++) if (!people.get(h).sits) standing.add(h);
            if (standing.size() == 1) {
                host = standing.get(0);
                people.get(host).hosted++;
                Person payer = people.get(people.get(host).payer);
                int bill = bill();
                while (bill > 0 && payer.coins > 0) {
                    bill--;
                    payer.coins--;
                    payer.paid++;
                    paidInAll++;
                }
                payer.owes = Math.min(99999, payer.owes + bill);
                for (Person q : people) {
                    q.sits = false;
                    q.tired = 0;
                }
                served = new boolean[6];
                over++;
            }
            return 0;
        }

        int tryRise(int g) {
            if (!people.get(g).sits) return 1;
            people.get(g).sits = false;
            return 0;
        }

        int tryServe(int d) {
            if (served[d]) return 1;
            served[d] = true;
            return 0;
        }

        int tryHide(int c) {
            if (c >= chairs) return 1;
            if (hidden[c]) return 2;
            if (sitter(c) != NONE) return 3;
            int left = 0;
            for (int i = 0; i < chairs; i++) if (!hidden[i]) left++;
            if (left - 1 < people.size()) return 4;
            hidden[c] = true;
            return 0;
        }

        int tryShow(int c) {
            if (c >= chairs) return 1;
            if (!hidden[c]) return 2;
            hidden[c] = false;
            return 0;
        }

        /** The ROUND, whatever its number is. */
        void go(int stubborn) {
            int overBefore = over;
            for (int g = 0; g < people.size(); g++) {
                Person p = people.get(g);
                if (p.sits) continue;
                for (int s = 0; s < p.speed; s++) p.chair = p.chair + 1 == chairs ? 0 : p.chair + 1;
                if (p.tired < 99) p.tired++;
                if (p.tired >= p.pride && g != stubborn) trySit(g);
                if (over != overBefore) break;
            }
            round++;
        }
    }

    StringBuilder tape = new StringBuilder();
    World w = new World();
    IntPredicate said = null;
    int saidOnes = 0;
    Deque<World> past = new ArrayDeque<>();
    int fault = 0, nextIn = NONE, tricking = NONE, pushing = NONE, menuOf = NONE, watch = NONE;
    List<Integer> hostList = new ArrayList<>();
    String plate = "";
    int[] told = null;
    World[] imageWorld = new World[2];
    IntPredicate[] imageSaid = new IntPredicate[2];

    String eat() {
        String s = tape.toString();
        tape.setLength(0);
        return s;
    }

    boolean noGuest(int g) { return g < 0 || g >= w.people.size(); }

    void remember() {
        past.push(w.copy());
        if (past.size() > 8) past.removeLast();
    }

    public int feed(int a, int b, int c, int d, int e) {
        if (tape.length() > 920) return NONE;
        for (int n : new int[] {a, b, c, d, e}) {
            for (byte y : java.nio.ByteBuffer.allocate(4).putInt(n).array()) tape.append((char) Byte.toUnsignedInt(y));
        }
        return tape.length();
    }

    public boolean end(int n) {
        if (n < 0 || n > tape.length()) return false;
        tape.setLength(n);
        return true;
    }

    public int hall() {
        try {
            World[] made = new World[1];
            int lines = readHall(new Tokens(eat(), 900), made);
            w = made[0];
            said = null;
            past.clear();
            fault = 0;
            return lines;
        } catch (Fault f) {
            fault = f.kind;
            return -1 - f.at;
        }
    }

    private static int readHall(Tokens t, World[] made) {
        World n = new World();
        boolean chairsTold = false;
        int lines = 0;
        while (!t.atEnd()) {
            if (t.is("chairs")) {
                if (chairsTold || !n.people.isEmpty()) throw t.fault(3);
                t.take();
                n.chairs = t.number(2, 9);
                chairsTold = true;
            } else if (t.is("guest")) {
                if (n.people.size() == Math.min(7, n.chairs)) throw t.fault(4);
                t.take();
                String name = newName(t, n);
                Person p = new Person();
                p.coins = t.number(0, 999);
                p.pride = t.number(0, 9);
                p.speed = t.number(0, 9);
                p.chair = t.number(0, n.chairs - 1);
                p.payer = n.people.size();
                n.names.add(name);
                n.people.add(p);
            } else if (t.is("dish")) {
                if (n.dishes.size() == 6) throw t.fault(4);
                t.take();
                String name = newName(t, n);
                n.dishes.put(name, t.number(1, 99));
            } else if (t.is("pays")) {
                t.take();
                int payer = t.named(n.names);
                Fault second = t.fault(3);
                int other = t.named(n.names);
                if (other == payer || n.people.get(other).payer != other) throw second;
                n.people.get(other).payer = payer;
            } else {
                throw t.fault(1);
            }
            t.need(";");
            lines++;
        }
        made[0] = n;
        return lines;
    }

    private static String newName(Tokens t, World n) {
        if (!t.look().isName()) throw t.fault(1);
        String s = t.look().text;
        if (n.names.contains(s) || n.dishes.containsKey(s)) throw t.fault(3);
        t.take();
        return s;
    }

    public int fault() { return fault; }

    public int guest(int g, int what) {
        if (noGuest(g) || what < 0 || what > 9) throw new NoSuchElementException();
        Person p = w.people.get(g);
        int[] all = {p.coins, p.pride, p.speed, p.chair, p.sits ? 1 : 0, p.tired, p.hosted, p.owes, p.paid, p.payer};
        return all[what];
    }

    public int chair(int c, int what) {
        if (c < 0 || c >= w.chairs || what < 0 || what > 2) return NONE;
        int at = 0;
        for (int g = 0; g < w.people.size(); g++) if (w.people.get(g).chair == c) at += 1 << g;
        return new int[] {w.hidden[c] ? 1 : 0, w.sitter(c), at}[what];
    }

    static int bits(boolean[] some) {
        int b = 0;
        for (int i = 0; i < some.length; i++) if (some[i]) b += 1 << i;
        return b;
    }

    public int now(int what) {
        if (what < 0 || what > 7) return NONE;
        return new int[] {w.round, w.sittingBits(), bits(w.served), w.bill(), w.over, bits(w.hidden), w.host, w.paidInAll}[what];
    }

    private int act(java.util.function.ToIntFunction<World> f) {
        World before = w.copy();
        int why = f.applyAsInt(w);
        if (why == 0) {
            past.push(before);
            if (past.size() > 8) past.removeLast();
        }
        return why;
    }

    public int sit(int g) { return noGuest(g) ? NONE : act(v -> v.trySit(g)); }
    public int rise(int g) { return noGuest(g) ? NONE : act(v -> v.tryRise(g)); }
    public int serve(int d) { return d < 0 || d >= w.dishes.size() ? NONE : act(v -> v.tryServe(d)); }
    public int hide(int c) { return c < 0 || c > 8 ? NONE : act(v -> v.tryHide(c)); }
    public int show(int c) { return c < 0 || c > 8 ? NONE : act(v -> v.tryShow(c)); }

    public int rounds(int n) {
        if (n < 1 || n > 60) return NONE;
        if (w.round == 400) return 0;
        remember();
        int did = 0;
        while (did < n && w.round < 400) {
            w.go(NONE);
            did++;
        }
        return did;
    }

    public int undo() {
        if (past.isEmpty()) return NONE;
        w = past.pop();
        return past.size();
    }

    /** HOST and ROUNDS, null without one. */
    static int[] next(World start) {
        World v = start.copy();
        for (int k = 1; k <= 99; k++) {
            if (v.round >= 400) return null;
            v.go(NONE);
            if (v.over > start.over) return new int[] {v.host, k};
        }
        return null;
    }

    static boolean isNext(World v, int g) {
        int[] n = next(v);
        return n != null && n[0] == g;
    }

    public int next() {
        int[] n = next(w);
        if (n == null) return NONE;
        nextIn = n[1];
        return n[0];
    }

    public int nextIn() { return nextIn; }

    public int linger(int g) {
        if (noGuest(g) || w.people.get(g).sits) return NONE;
        for (int k = 20; k >= 0; k--) {
            World v = w.copy();
            for (int i = 0; i < k; i++) v.go(g);
            if (v.over == w.over && v.copy().trySit(g) == 0) return k;
        }
        return NONE;
    }

    public int trick(int g) {
        if (noGuest(g)) return NONE;
        int best = NONE;
        for (int some = 0; some < 512; some++) {
            if (best != NONE && Integer.bitCount(some) >= Integer.bitCount(best)) continue;
            World v = w.copy();
            boolean can = true;
            for (int c = 0; c < 9 && can; c++) if ((some & 1 << c) != 0) can = v.tryHide(c) == 0;
            if (can && isNext(v, g)) best = some;
        }
        if (best == NONE) return NONE;
        tricking = best;
        return Integer.bitCount(best);
    }

    public int tricking() { return tricking; }

    public int push(int g) {
        if (noGuest(g) || w.people.get(g).sits) return NONE;
        int best = NONE;
        for (int some = 0; some < 1 << w.people.size(); some++) {
            if ((some & 1 << g) != 0) continue;
            if (best != NONE && Integer.bitCount(some) >= Integer.bitCount(best)) continue;
            World v = w.copy();
            boolean can = true;
            for (int h = 0; h < w.people.size() && can; h++) if ((some & 1 << h) != 0) can = v.trySit(h) == 0;
            if (can && (v.over > w.over ? v.host == g : isNext(v, g))) best = some;
        }
        if (best == NONE) return NONE;
        pushing = best;
        return Integer.bitCount(best);
    }

    public int pushing() { return pushing; }

    public int safe(int g) {
        if (noGuest(g) || w.people.get(g).sits) return NONE;
        int b = 0;
        for (int c = 0; c < w.chairs; c++) {
            World v = w.copy();
            v.people.get(g).chair = c;
            if (!isNext(v, g)) b += 1 << c;
        }
        return b;
    }

    public int hosts(int n) {
        if (n < 1 || n > 999) return NONE;
        World v = w.copy();
        hostList = new ArrayList<>();
        while (hostList.size() < 99) {
            int most = -1;
            for (Person p : v.people) most = Math.max(most, v.people.get(p.payer).coins);
            if (most < n) break;
            for (int g = 0; g < v.people.size(); g++) {
                Person payer = v.people.get(v.people.get(g).payer);
                if (payer.coins == most) {
                    payer.coins -= n;
                    hostList.add(g);
                    break;
                }
            }
        }
        return hostList.size();
    }

    public int hostAt(int k) { return k < 0 || k >= hostList.size() ? NONE : hostList.get(k); }

    public int gone() {
        String s = eat();
        if (s.length() != 2 || s.charAt(0) < 1 || s.charAt(0) > 9) return NONE;
        int b = 0;
        for (int c = 0; c <= 9; c++) {
            if (c >= w.chairs && c != 9) continue;
            World v = w.copy();
            if (c < 9) v.hidden[c] = true;
            for (int k = 0; k < s.charAt(0); k++) v.go(NONE);
            if (v.sittingBits() == s.charAt(1)) b += 1 << c;
        }
        return b;
    }

    public int when(int g, int c) {
        if (noGuest(g) || c < 0 || c >= w.chairs) return NONE;
        Person p = w.people.get(g);
        for (int k = 0; k < 1000; k++) if ((p.chair + k * p.speed) % w.chairs == c) return k;
        return NONE;
    }

    public int menu() {
        List<Integer> costs = w.costs();
        int best = 0, bestCost = 0;
        for (int some = 0; some < 1 << costs.size(); some++) {
            int cost = 0;
            for (int d = 0; d < costs.size(); d++) if ((some & 1 << d) != 0) cost += costs.get(d);
            boolean can = true;
            for (Person p : w.people) can &= cost <= w.people.get(p.payer).coins;
            int many = Integer.bitCount(some), was = Integer.bitCount(best);
            if (can && (many > was || many == was && cost < bestCost)) {
                best = some;
                bestCost = cost;
            }
        }
        menuOf = best;
        return Integer.bitCount(best);
    }

    public int menuOf() { return menuOf; }

    public int proud() {
        String s = eat();
        if (s.isEmpty() || s.length() % 2 == 1 || s.length() > 16) return NONE;
        List<Integer> left = new ArrayList<>();
        for (int pride = 0; pride <= 9; pride++) {
            boolean can = true;
            for (int i = 0; i < s.length(); i += 2) {
                if (s.charAt(i + 1) > 1) return NONE;
                can &= (s.charAt(i) >= pride) == (s.charAt(i + 1) == 1);
            }
            if (can) left.add(pride);
        }
        if (!left.isEmpty()) {
            int least = 99;
            for (int t = 9; t >= 0; t--) {
                int sat = 0, stood = 0;
                for (int pride : left) {
                    if (t >= pride) sat++;
                    else stood++;
                }
                if (Math.max(sat, stood) <= least) {
                    least = Math.max(sat, stood);
                    watch = t;
                }
            }
        }
        int b = 0;
        for (int pride : left) b += 1 << pride;
        return b;
    }

    public int watch() { return watch; }

    public int mean(int what) {
        if (w.people.isEmpty() || what < 0 || what > 1) throw new NoSuchElementException();
        int gcd = java.math.BigInteger.valueOf(w.paidInAll).gcd(java.math.BigInteger.valueOf(w.people.size())).intValue();
        return (what == 0 ? w.paidInAll : w.people.size()) / gcd;
    }

    public int plate(int g) {
        if (noGuest(g)) return NONE;
        Person p = w.people.get(g);
        plate = w.names.get(g) + (p.sits ? " sits at " : " stands at ") + p.chair + (p.owes > 0 ? " owes " + p.owes : "");
        return plate.length();
    }

    public int byteAt(int i) { return i < 0 || i >= plate.length() ? NONE : plate.charAt(i); }

    static final class Lots {
        int x;

        int draw(int n) {
            x = x * 1103515245 + 12345;
            return (x >>> 8) % n;
        }
    }

    static int drawn(World v, int n, int seed) {
        Lots lots = new Lots();
        lots.x = seed;
        int did = 0;
        for (; did < n && v.round < 400; did++) {
            if (!v.dishes.isEmpty() && lots.draw(2) == 0) v.tryServe(lots.draw(v.dishes.size()));
            for (int g = 0; g < v.people.size(); g++) {
                int d = lots.draw(8);
                if (d == 0) v.trySit(g);
                if (d == 1) v.tryRise(g);
            }
            v.go(NONE);
        }
        return did;
    }

    public int drawn(int n, int seed) {
        if (n < 1 || n > 60) return NONE;
        if (w.round == 400) return 0;
        remember();
        return drawn(w, n, seed);
    }

    public int odds(int g, int n, int seed) {
        if (noGuest(g) || n < 1 || n > 30) return NONE;
        int many = 0;
        for (int i = 0; i < n; i++) {
            World v = w.copy();
            drawn(v, 20, seed + i);
            if (v.people.get(g).hosted != w.people.get(g).hosted) many++;
        }
        return many;
    }

    private List<String[]> readBook(Tokens t) {
        List<String[]> lines = new ArrayList<>();
        while (!t.atEnd()) {
            String first = t.look().text;
            boolean key = List.of("serve", "hide", "show", "round").contains(first);
            if (!key && !t.look().isName()) throw t.fault(1);
            if (!key && !w.names.contains(first)) throw t.fault(3);
            if (lines.size() == 40) throw t.fault(4);
            if (!key) {
                int g = t.named(w.names);
                if (!t.is("sits") && !t.is("rises")) throw t.fault(1);
                lines.add(new String[] {t.take().text, "" + g});
            } else {
                t.take();
                int n = first.equals("serve") ? t.named(w.dishNames())
                        : first.equals("round") ? t.number(1, 60) : t.number(0, 8);
                lines.add(new String[] {first, "" + n});
            }
            t.need(";");
        }
        return lines;
    }

    static int live(World v, String deed, int n) {
        int why;
        switch (deed) {
            case "sits": return v.trySit(n);
            case "rises": why = v.tryRise(n); return why == 0 ? 0 : why + 10;
            case "serve": why = v.tryServe(n); return why == 0 ? 0 : why + 20;
            case "hide": why = v.tryHide(n); return why == 0 ? 0 : why + 30;
            case "show": why = v.tryShow(n); return why == 0 ? 0 : why + 40;
            default:
                if (v.round + n > 400) return 51;
                for (int i = 0; i < n; i++) v.go(NONE);
                return 0;
        }
    }

    public int book(int lives) {
        if (lives != 0 && lives != 1) return -1000;
        List<String[]> lines;
        try {
            lines = readBook(new Tokens(eat(), 400));
        } catch (Fault f) {
            fault = f.kind;
            return -2 - f.at;
        }
        fault = 0;
        World v = w.copy();
        int why = 0, good = 0;
        for (String[] line : lines) {
            why = live(v, line[0], Integer.parseInt(line[1]));
            if (why != 0) break;
            good++;
        }
        told = new int[] {why, good, v.round, v.sittingBits()};
        if (lives == 1 && good > 0) {
            remember();
            w = v;
        }
        return why == 0 ? NONE : good;
    }

    public int told(int what) { return told == null || what < 0 || what > 3 ? NONE : told[what]; }

    public int sentence() {
        int[] ones = {0};
        try {
            Tokens t = new Tokens(eat(), 200);
            IntPredicate p = cond(t, ones, 0);
            if (!t.atEnd()) throw t.fault(1);
            said = p;
            fault = 0;
            return ones[0];
        } catch (Fault f) {
            fault = f.kind;
            return -1 - f.at;
        }
    }

    private IntPredicate cond(Tokens t, int[] ones, int within) {
        IntPredicate p = all(t, ones, within);
        while (t.is("or")) {
            t.take();
            IntPredicate left = p, right = all(t, ones, within);
            p = g -> left.test(g) || right.test(g);
        }
        return p;
    }

    private IntPredicate all(Tokens t, int[] ones, int within) {
        IntPredicate p = one(t, ones, within);
        while (t.is("and")) {
            t.take();
            IntPredicate left = p, right = one(t, ones, within);
            p = g -> left.test(g) && right.test(g);
        }
        return p;
    }

    private static final List<String> OF_ONES = Arrays.asList("(", "not", "seated", "ruined", "weary", "by", "for",
            "coins", "tired", "hosted", "number");

    private IntPredicate one(Tokens t, int[] ones, int within) {
        if (!OF_ONES.contains(t.look().text)) throw t.fault(1);
        if (ones[0] == 20 || within == 8) throw t.fault(4);
        ones[0]++;
        String what = t.take().text;
        switch (what) {
            case "(": {
                IntPredicate p = cond(t, ones, within + 1);
                t.need(")");
                return p;
            }
            case "not": return one(t, ones, within + 1).negate();
            case "seated": return g -> w.people.get(g).sits;
            case "ruined": return g -> w.people.get(g).owes > 0;
            case "weary": return g -> w.people.get(g).tired >= w.people.get(g).pride;
            case "by": {
                int h = t.named(w.names);
                return g -> w.people.get(g).chair == w.people.get(h).chair;
            }
            case "for": {
                int h = t.named(w.names);
                return g -> w.people.get(h).payer == g;
            }
            default: return compare(t, what);
        }
    }

    private IntPredicate compare(Tokens t, String what) {
        if (!t.is("<") && !t.is("=") && !t.is(">")) throw t.fault(1);
        String sign = t.take().text;
        int n = t.number(0, 999);
        return g -> {
            Person p = w.people.get(g);
            int v = what.equals("coins") ? p.coins : what.equals("tired") ? p.tired : what.equals("hosted") ? p.hosted : g;
            return sign.equals("<") ? v < n : sign.equals("=") ? v == n : v > n;
        };
    }

    public int said(int k) {
        if (said == null || k < NONE) return NONE;
        List<Integer> of = new ArrayList<>();
        for (int g = 0; g < w.people.size(); g++) if (said.test(g)) of.add(g);
        return k == NONE ? of.size() : k < of.size() ? of.get(k) : NONE;
    }

    public boolean image(int k) {
        if (k != 0 && k != 1) return false;
        imageWorld[k] = w.copy();
        imageSaid[k] = said;
        return true;
    }

    public boolean restore(int k) {
        if (k != 0 && k != 1 || imageWorld[k] == null) return false;
        w = imageWorld[k].copy();
        said = imageSaid[k];
        past.clear();
        return true;
    }

    public int count(int what) {
        return what < 0 || what > 3 ? NONE : new int[] {w.chairs, w.people.size(), w.dishes.size(), tape.length()}[what];
    }
}
