import java.util.NoSuchElementException;

/**
 * The host is whoever sits down last. Words in capitals are the document's (DOC.md).
 *
 * All rows are made by the constructors and used again: a call makes no object,
 * unless it throws, because all calls of a run share one room.
 */
public final class LastSeat {
    public static final int NONE = -1;

    private static final int MOST_TAPE = 940;
    private static final int MOST_PLATE = 40;
    private static final int MOST_GUESTS = 7;
    private static final int MOST_DISHES = 6;
    private static final int MOST_CHAIRS = 9;
    private static final int MOST_PRIDE = 9;
    private static final int MOST_TIRED = 99;
    private static final int MOST_OWED = 99999;
    private static final int MOST_HOSTS = 99;
    private static final int LAST_ROUND = 400;
    private static final int MOST_AT_ONCE = 60;
    /** More than all DISHES can cost. */
    private static final int NO_LIMIT = 9999;

    private static final int FAULT_TOKEN = 1;
    private static final int FAULT_NUMBER = 2;
    private static final int FAULT_NAME = 3;
    private static final int FAULT_MANY = 4;

    /** The WORDS that no NAME may be, in the order of the numbers below. */
    private static final String KEYS = "chairs guest dish pays sits rises serve hide show round or and not seated ruined weary by for coins tired hosted number ";
    private static final int MOST_KEYS = 22;
    private static final int CHAIRS = 0;
    private static final int GUEST = 1;
    private static final int DISH = 2;
    private static final int PAYS = 3;
    private static final int SITS = 4;
    private static final int RISES = 5;
    private static final int SERVE = 6;
    private static final int HIDE = 7;
    private static final int SHOW = 8;
    private static final int ROUND = 9;
    private static final int OR = 10;
    private static final int AND = 11;
    private static final int NOT = 12;
    private static final int SEATED = 13;
    private static final int RUINED = 14;
    private static final int WEARY = 15;
    private static final int BY = 16;
    private static final int FOR = 17;
    private static final int COINS = 18;
    private static final int TIRED = 19;
    private static final int HOSTED = 20;
    private static final int NUMBER = 21;

    private final Tape tape;
    private final Tape written;
    private final Hall hallNow;
    private final Feast feast;
    private final HallText hallText;
    private final Acts acts;
    private final Seer seer;
    private final Ledger ledger;
    private final Saying saying;
    private final SayingText sayingText;
    private final Image[] images;
    private int lastFault;

    public LastSeat() {
        tape = new Tape(MOST_TAPE);
        written = new Tape(MOST_PLATE);
        Reader reader = new Reader(tape);
        hallNow = new Hall();
        feast = new Feast(hallNow);
        hallText = new HallText(reader);
        acts = new Acts(hallNow);
        seer = new Seer(feast);
        ledger = new Ledger(reader, hallNow);
        saying = new Saying();
        sayingText = new SayingText(reader, hallNow);
        images = new Image[2];
        images[0] = new Image();
        images[1] = new Image();
        lastFault = 0;
    }

    public int feed(int a, int b, int c, int d, int e) {
        if (tape.size + 20 > MOST_TAPE) {
            return NONE;
        }
        tape.putInt(a);
        tape.putInt(b);
        tape.putInt(c);
        tape.putInt(d);
        tape.putInt(e);
        return tape.size;
    }

    public boolean end(int n) {
        if (n < 0 || n > tape.size) {
            return false;
        }
        tape.size = n;
        return true;
    }

    public int hall() {
        int lines = hallText.read();
        tape.size = 0;
        lastFault = hallText.reader.fault;
        if (lines == NONE) {
            return -1 - hallText.reader.faultAt;
        }
        hallNow.copyFrom(hallText.told);
        feast.begin();
        saying.clear();
        acts.kept = 0;
        return lines;
    }

    public int fault() {
        return lastFault;
    }

    public int guest(int g, int what) throws NoSuchElementException {
        if (!hallNow.hasGuest(g)) {
            throw new NoSuchElementException("no such GUEST");
        }
        switch (what) {
            case 0: return feast.coins[g];
            case 1: return hallNow.pride[g];
            case 2: return hallNow.speed[g];
            case 3: return feast.chairOf[g];
            case 4: return feast.isSeated(g) ? 1 : 0;
            case 5: return feast.tired[g];
            case 6: return feast.hosted[g];
            case 7: return feast.owed[g];
            case 8: return feast.paid[g];
            case 9: return hallNow.payer[g];
            default: throw new NoSuchElementException("nothing of that number is told of a GUEST");
        }
    }

    public int chair(int c, int what) {
        if (!hallNow.hasChair(c)) {
            return NONE;
        }
        switch (what) {
            case 0: return feast.hidden >> c & 1;
            case 1: return feast.whoSitsAt(c);
            case 2: return feast.whoIsAt(c);
            default: return NONE;
        }
    }

    public int now(int what) {
        switch (what) {
            case 0: return feast.round;
            case 1: return feast.sitting;
            case 2: return feast.served;
            case 3: return hallNow.costOf(feast.served);
            case 4: return feast.over;
            case 5: return feast.hidden;
            case 6: return feast.host;
            case 7: return feast.paidInAll;
            default: return NONE;
        }
    }

    public int sit(int g) {
        if (!hallNow.hasGuest(g)) {
            return NONE;
        }
        int why = feast.whyNotSit(g);
        if (why == 0) {
            acts.keep(feast);
            feast.sitDown(g);
        }
        return why;
    }

    public int rise(int g) {
        if (!hallNow.hasGuest(g)) {
            return NONE;
        }
        int why = feast.whyNotRise(g);
        if (why == 0) {
            acts.keep(feast);
            feast.standUp(g);
        }
        return why;
    }

    public int serve(int d) {
        if (d < 0 || d >= hallNow.dishes) {
            return NONE;
        }
        int why = feast.whyNotServe(d);
        if (why == 0) {
            acts.keep(feast);
            feast.bring(d);
        }
        return why;
    }

    public int hide(int c) {
        if (c < 0 || c >= MOST_CHAIRS) {
            return NONE;
        }
        int why = feast.whyNotHide(c);
        if (why == 0) {
            acts.keep(feast);
            feast.hidden |= 1 << c;
        }
        return why;
    }

    public int show(int c) {
        if (c < 0 || c >= MOST_CHAIRS) {
            return NONE;
        }
        int why = feast.whyNotShow(c);
        if (why == 0) {
            acts.keep(feast);
            feast.hidden &= ~(1 << c);
        }
        return why;
    }

    public int rounds(int n) {
        if (n < 1 || n > MOST_AT_ONCE) {
            return NONE;
        }
        int went = Math.min(n, LAST_ROUND - feast.round);
        if (went > 0) {
            acts.keep(feast);
        }
        for (int k = 0; k < went; k++) {
            feast.goRound(NONE);
        }
        return went;
    }

    public int undo() {
        return acts.takeBack(feast);
    }

    public int next() {
        return seer.hostNext();
    }

    public int nextIn() {
        return seer.nextBehind;
    }

    public int linger(int g) {
        return hallNow.hasGuest(g) && !feast.isSeated(g) ? seer.longestLinger(g) : NONE;
    }

    public int trick(int g) {
        return hallNow.hasGuest(g) && !feast.isSeated(g) ? seer.fewestHidden(g) : NONE;
    }

    public int tricking() {
        return seer.trickChairs;
    }

    public int push(int g) {
        return hallNow.hasGuest(g) && !feast.isSeated(g) ? seer.fewestPushed(g) : NONE;
    }

    public int pushing() {
        return seer.pushedGuests;
    }

    public int safe(int g) {
        return hallNow.hasGuest(g) && !feast.isSeated(g) ? seer.safeChairs(g) : NONE;
    }

    public int hosts(int n) {
        return n >= 1 && n <= 999 ? seer.hostList(n) : NONE;
    }

    public int hostAt(int k) {
        return k >= 0 && k < seer.hostsListed ? seer.listedHosts[k] : NONE;
    }

    public int gone() {
        int size = tape.size;
        int rounds = tape.at(0);
        int guests = tape.at(1);
        tape.size = 0;
        return size == 2 && rounds >= 1 && rounds <= 9 ? seer.chairsGone(rounds, guests) : NONE;
    }

    public int when(int g, int c) {
        return hallNow.hasGuest(g) && hallNow.hasChair(c) ? feast.roundsTill(g, c) : NONE;
    }

    public int menu() {
        return seer.mostDishes();
    }

    public int menuOf() {
        return seer.menuDishes;
    }

    public int proud() {
        int prides = seer.pridesBy(tape);
        tape.size = 0;
        return prides;
    }

    public int watch() {
        return seer.watchAt;
    }

    public int mean(int what) throws NoSuchElementException {
        int guests = hallNow.guests;
        if (guests < 1 || what < 0 || what > 1) {
            throw new NoSuchElementException("no GUESTS, or a fraction has 0 above and 1 below alone");
        }
        int whole = what == 0 ? feast.paidInAll : guests;
        for (int d = guests; d > 1; d--) {
            if (guests % d == 0 && feast.paidInAll % d == 0) {
                return whole / d;
            }
        }
        return whole;
    }

    public int plate(int g) {
        if (!hallNow.hasGuest(g)) {
            return NONE;
        }
        written.size = 0;
        written.putName(hallNow.guestName[g]);
        written.putText(feast.isSeated(g) ? " sits at " : " stands at ");
        written.putNumber(feast.chairOf[g]);
        if (feast.owed[g] > 0) {
            written.putText(" owes ");
            written.putNumber(feast.owed[g]);
        }
        return written.size;
    }

    public int byteAt(int i) {
        return written.at(i);
    }

    public int drawn(int n, int seed) {
        if (n < 1 || n > MOST_AT_ONCE) {
            return NONE;
        }
        if (feast.round < LAST_ROUND) {
            acts.keep(feast);
        }
        return feast.goDrawn(n, seed);
    }

    public int odds(int g, int n, int seed) {
        return hallNow.hasGuest(g) && n >= 1 && n <= 30 ? seer.seedsThatMakeHost(g, n, seed) : NONE;
    }

    public int book(int lives) {
        if (lives < 0 || lives > 1) {
            return -1000;
        }
        boolean whole = ledger.read();
        tape.size = 0;
        lastFault = ledger.reader.fault;
        if (!whole) {
            return -2 - ledger.reader.faultAt;
        }
        seer.trial.copyFrom(feast);
        ledger.judge(seer.trial);
        if (lives == 1 && ledger.lived > 0) {
            acts.keep(feast);
            feast.copyFrom(seer.trial);
        }
        return ledger.why == 0 ? NONE : ledger.lived;
    }

    public int told(int what) {
        if (!ledger.judged) {
            return NONE;
        }
        switch (what) {
            case 0: return ledger.why;
            case 1: return ledger.lived;
            case 2: return ledger.roundThen;
            case 3: return ledger.sittingThen;
            default: return NONE;
        }
    }

    public int sentence() {
        boolean whole = sayingText.read();
        tape.size = 0;
        lastFault = sayingText.reader.fault;
        if (!whole) {
            return -1 - sayingText.reader.faultAt;
        }
        saying.copyFrom(sayingText.told);
        return saying.ones;
    }

    public int said(int k) {
        if (saying.length == 0 || k < NONE) {
            return NONE;
        }
        int of = saying.trueOf(feast);
        if (k == NONE) {
            return Integer.bitCount(of);
        }
        int ahead = 0;
        for (int g = 0; g < hallNow.guests; g++) {
            if ((of >> g & 1) == 1) {
                if (ahead == k) {
                    return g;
                }
                ahead++;
            }
        }
        return NONE;
    }

    public boolean image(int k) {
        if (k < 0 || k > 1) {
            return false;
        }
        Image kept = images[k];
        kept.hall.copyFrom(hallNow);
        kept.feast.copyFrom(feast);
        kept.saying.copyFrom(saying);
        kept.isThere = true;
        return true;
    }

    public boolean restore(int k) {
        if (k < 0 || k > 1 || !images[k].isThere) {
            return false;
        }
        Image kept = images[k];
        hallNow.copyFrom(kept.hall);
        feast.copyFrom(kept.feast);
        saying.copyFrom(kept.saying);
        acts.kept = 0;
        return true;
    }

    public int count(int what) {
        switch (what) {
            case 0: return hallNow.chairs;
            case 1: return hallNow.guests;
            case 2: return hallNow.dishes;
            case 3: return tape.size;
            default: return NONE;
        }
    }

    /** Bytes one behind the other: the tape, and the latest PLATE. */
    private static final class Tape {
        final byte[] bytes;
        int size;

        Tape(int most) {
            bytes = new byte[Math.max(0, most)];
            size = 0;
        }

        int at(int i) {
            return i >= 0 && i < size && i < bytes.length ? bytes[i] & 255 : NONE;
        }

        void put(int b) {
            if (size >= 0 && size < bytes.length) {
                bytes[size] = (byte) b;
                size++;
            }
        }

        void putInt(int a) {
            for (int shift = 24; shift >= 0; shift -= 8) {
                put(a >> shift);
            }
        }

        void putText(String text) {
            for (int i = 0; i < text.length(); i++) {
                put(text.charAt(i));
            }
        }

        /** A NAME is held as a number of five bits a letter (Reader). */
        void putName(long name) {
            for (int shift = 30; shift >= 0; shift -= 5) {
                int letter = (int) (name >> shift & 31);
                if (letter != 0) {
                    put('a' - 1 + letter);
                }
            }
        }

        void putNumber(int n) {
            int unit = 1;
            for (int digits = 1; digits < 6 && n / 10 >= unit; digits++) {
                unit *= 10;
            }
            for (; unit > 0; unit /= 10) {
                put('0' + n / unit % 10);
            }
        }
    }

    /** Reads the tape TOKEN by TOKEN and remembers the first FAULT. */
    private static final class Reader {
        static final int END = 0;
        static final int NO_TOKEN = 1;
        static final int A_NUMBER = '0';
        static final int A_WORD = 'a';

        final Tape tape;
        final long[] keys;
        int most;
        int behind;
        int at;
        /** END, NO_TOKEN, A_NUMBER, A_WORD or the byte of a sign. */
        int kind;
        int number;
        long word;
        /** Which of KEYS the WORD is, NONE: it can be a NAME. */
        int key;
        /** The NUMBER, GUEST or DISH that was taken last. */
        int taken;
        int fault;
        int faultAt;

        Reader(Tape tape) {
            this.tape = tape;
            keys = new long[MOST_KEYS];
            int k = 0;
            for (int i = 0; i < KEYS.length() && k < MOST_KEYS; i++) {
                if (KEYS.charAt(i) == ' ') {
                    k++;
                } else {
                    keys[k] = keys[k] * 32 + (KEYS.charAt(i) - ('a' - 1));
                }
            }
        }

        void open(int mostBytes) {
            most = mostBytes;
            behind = 0;
            fault = 0;
            faultAt = 0;
            step();
        }

        void step() {
            int c = tape.at(behind);
            while (behind < tape.size && (c == ' ' || c == '\n')) {
                behind++;
                c = tape.at(behind);
            }
            at = Math.min(behind, most);
            key = NONE;
            if (behind >= most && tape.size > most) {
                kind = NO_TOKEN;
            } else if (behind >= tape.size) {
                kind = END;
            } else if (c >= 'a' && c <= 'z' || c >= '0' && c <= '9') {
                readRun();
                key = kind == A_WORD ? keyOf(word) : NONE;
            } else {
                boolean sign = c == ';' || c == '<' || c == '=' || c == '>' || c == '(' || c == ')';
                kind = sign ? c : NO_TOKEN;
                behind++;
            }
        }

        private void readRun() {
            int letters = 0;
            int digits = 0;
            word = 0;
            number = 0;
            byte[] bytes = tape.bytes;
            for (; behind < tape.size && behind < bytes.length; behind++) {
                int c = bytes[behind];
                if (c >= 'a' && c <= 'z') {
                    word = word * 32 + (c - ('a' - 1));
                    letters++;
                } else if (c >= '0' && c <= '9') {
                    number = number * 10 + (c - '0');
                    digits++;
                } else {
                    break;
                }
            }
            if (digits == 0 && letters <= 7) {
                kind = A_WORD;
            } else {
                kind = letters == 0 && digits <= 3 ? A_NUMBER : NO_TOKEN;
            }
        }

        private int keyOf(long aWord) {
            for (int k = 0; k < MOST_KEYS; k++) {
                if (keys[k] == aWord) {
                    return k;
                }
            }
            return NONE;
        }

        /** A FAULT at the TOKEN; false, so that readers can answer by it. */
        boolean refuse(int why) {
            if (fault == 0) {
                fault = why;
                faultAt = at;
            }
            return false;
        }

        boolean isKey(int k) {
            return kind == A_WORD && key == k;
        }

        boolean isName() {
            return kind == A_WORD && key == NONE;
        }

        boolean takeSign(int sign) {
            if (kind != sign) {
                return refuse(FAULT_TOKEN);
            }
            step();
            return true;
        }

        boolean takeNumber(int low, int high) {
            if (kind != A_NUMBER) {
                return refuse(FAULT_TOKEN);
            }
            if (number < low || number > high) {
                return refuse(FAULT_NUMBER);
            }
            taken = number;
            step();
            return true;
        }

        /** Takes a NAME of which the HALL told that it is this GUEST or DISH (NONE: no such one). */
        boolean takeNamed(int which) {
            if (!isName()) {
                return refuse(FAULT_TOKEN);
            }
            if (which == NONE) {
                return refuse(FAULT_NAME);
            }
            taken = which;
            step();
            return true;
        }
    }

    /** What a HALL's text tells and no act changes. */
    private static final class Hall {
        final long[] guestName;
        final int[] coins;
        final int[] pride;
        final int[] speed;
        final int[] place;
        final int[] payer;
        final long[] dishName;
        final int[] cost;
        int chairs;
        int guests;
        int dishes;

        Hall() {
            guestName = new long[MOST_GUESTS];
            coins = new int[MOST_GUESTS];
            pride = new int[MOST_GUESTS];
            speed = new int[MOST_GUESTS];
            place = new int[MOST_GUESTS];
            payer = new int[MOST_GUESTS];
            dishName = new long[MOST_DISHES];
            cost = new int[MOST_DISHES];
            chairs = 6;
        }

        void clear() {
            chairs = 6;
            guests = 0;
            dishes = 0;
        }

        void copyFrom(Hall other) {
            System.arraycopy(other.guestName, 0, guestName, 0, MOST_GUESTS);
            System.arraycopy(other.coins, 0, coins, 0, MOST_GUESTS);
            System.arraycopy(other.pride, 0, pride, 0, MOST_GUESTS);
            System.arraycopy(other.speed, 0, speed, 0, MOST_GUESTS);
            System.arraycopy(other.place, 0, place, 0, MOST_GUESTS);
            System.arraycopy(other.payer, 0, payer, 0, MOST_GUESTS);
            System.arraycopy(other.dishName, 0, dishName, 0, MOST_DISHES);
            System.arraycopy(other.cost, 0, cost, 0, MOST_DISHES);
            chairs = other.chairs;
            guests = other.guests;
            dishes = other.dishes;
        }

        boolean hasGuest(int g) {
            return g >= 0 && g < guests;
        }

        boolean hasChair(int c) {
            return c >= 0 && c < chairs;
        }

        int guestNamed(long name) {
            for (int g = 0; g < guests; g++) {
                if (guestName[g] == name) {
                    return g;
                }
            }
            return NONE;
        }

        int dishNamed(long name) {
            for (int d = 0; d < dishes; d++) {
                if (dishName[d] == name) {
                    return d;
                }
            }
            return NONE;
        }

        int costOf(int some) {
            int sum = 0;
            for (int d = 0; d < dishes; d++) {
                if ((some >> d & 1) == 1) {
                    sum += cost[d];
                }
            }
            return sum;
        }
    }

    /** Reads a HALL's text into a HALL of its own, so that a FAULT leaves the old one alone. */
    private static final class HallText {
        final Reader reader;
        final Hall told;
        boolean chairsTold;

        HallText(Reader reader) {
            this.reader = reader;
            told = new Hall();
        }

        /** How many LINES; NONE: a FAULT. */
        int read() {
            reader.open(900);
            told.clear();
            chairsTold = false;
            for (int lines = 0; lines < MOST_TAPE; lines++) {
                if (reader.kind == Reader.END) {
                    return lines;
                }
                if (!readLine()) {
                    return NONE;
                }
            }
            return NONE;
        }

        private boolean readLine() {
            boolean good;
            switch (reader.key) {
                case CHAIRS: good = readChairs(); break;
                case GUEST: good = readGuest(); break;
                case DISH: good = readDish(); break;
                case PAYS: good = readPays(); break;
                default: good = reader.refuse(FAULT_TOKEN);
            }
            return good && reader.takeSign(';');
        }

        private boolean readChairs() {
            if (chairsTold || told.guests > 0) {
                return reader.refuse(FAULT_NAME);
            }
            reader.step();
            if (!reader.takeNumber(2, MOST_CHAIRS)) {
                return false;
            }
            told.chairs = reader.taken;
            chairsTold = true;
            return true;
        }

        private boolean readGuest() {
            int g = told.guests;
            if (g >= MOST_GUESTS || g >= told.chairs) {
                return reader.refuse(FAULT_MANY);
            }
            reader.step();
            if (!isNewName()) {
                return false;
            }
            told.guestName[g] = reader.word;
            reader.step();
            if (!reader.takeNumber(0, 999)) {
                return false;
            }
            told.coins[g] = reader.taken;
            if (!reader.takeNumber(0, MOST_PRIDE)) {
                return false;
            }
            told.pride[g] = reader.taken;
            if (!reader.takeNumber(0, 9)) {
                return false;
            }
            told.speed[g] = reader.taken;
            if (!reader.takeNumber(0, told.chairs - 1)) {
                return false;
            }
            told.place[g] = reader.taken;
            told.payer[g] = g;
            told.guests++;
            return true;
        }

        private boolean readDish() {
            int d = told.dishes;
            if (d >= MOST_DISHES) {
                return reader.refuse(FAULT_MANY);
            }
            reader.step();
            if (!isNewName()) {
                return false;
            }
            told.dishName[d] = reader.word;
            reader.step();
            if (!reader.takeNumber(1, 99)) {
                return false;
            }
            told.cost[d] = reader.taken;
            told.dishes++;
            return true;
        }

        private boolean readPays() {
            reader.step();
            if (!reader.takeNamed(told.guestNamed(reader.word))) {
                return false;
            }
            int payer = reader.taken;
            int paidFor = reader.isName() ? told.guestNamed(reader.word) : NONE;
            if (paidFor != NONE && (paidFor == payer || told.payer[paidFor] != paidFor)) {
                return reader.refuse(FAULT_NAME);
            }
            if (!reader.takeNamed(told.guestNamed(reader.word))) {
                return false;
            }
            told.payer[reader.taken] = payer;
            return true;
        }

        private boolean isNewName() {
            if (!reader.isName()) {
                return reader.refuse(FAULT_TOKEN);
            }
            if (told.guestNamed(reader.word) != NONE || told.dishNamed(reader.word) != NONE) {
                return reader.refuse(FAULT_NAME);
            }
            return true;
        }
    }

    /** All that acts and ROUNDS change in a HALL. */
    private static final class Feast {
        final Hall hall;
        final int[] coins;
        final int[] chairOf;
        final int[] tired;
        final int[] hosted;
        final int[] owed;
        final int[] paid;
        int sitting;
        /** CHAIRS at which somebody sits, as bits: told by the GUESTS, too, but asked too often for a search. */
        int taken;
        int served;
        int hidden;
        int round;
        int over;
        int host;
        int paidInAll;
        /** What the draws have come to: each ROUNDS DRAWN set it anew, so it is no part of what is kept. */
        int lot;

        Feast(Hall hall) {
            this.hall = hall;
            coins = new int[MOST_GUESTS];
            chairOf = new int[MOST_GUESTS];
            tired = new int[MOST_GUESTS];
            hosted = new int[MOST_GUESTS];
            owed = new int[MOST_GUESTS];
            paid = new int[MOST_GUESTS];
            host = NONE;
        }

        void begin() {
            for (int g = 0; g < MOST_GUESTS; g++) {
                coins[g] = hall.coins[g];
                chairOf[g] = hall.place[g];
                tired[g] = 0;
                hosted[g] = 0;
                owed[g] = 0;
                paid[g] = 0;
            }
            sitting = 0;
            taken = 0;
            served = 0;
            hidden = 0;
            round = 0;
            over = 0;
            host = NONE;
            paidInAll = 0;
        }

        void copyFrom(Feast other) {
            System.arraycopy(other.coins, 0, coins, 0, MOST_GUESTS);
            System.arraycopy(other.chairOf, 0, chairOf, 0, MOST_GUESTS);
            System.arraycopy(other.tired, 0, tired, 0, MOST_GUESTS);
            System.arraycopy(other.hosted, 0, hosted, 0, MOST_GUESTS);
            System.arraycopy(other.owed, 0, owed, 0, MOST_GUESTS);
            System.arraycopy(other.paid, 0, paid, 0, MOST_GUESTS);
            sitting = other.sitting;
            taken = other.taken;
            served = other.served;
            hidden = other.hidden;
            round = other.round;
            over = other.over;
            host = other.host;
            paidInAll = other.paidInAll;
        }

        boolean isSeated(int g) {
            return (sitting >> g & 1) == 1;
        }

        int whoIsAt(int c) {
            int who = 0;
            for (int g = 0; g < hall.guests; g++) {
                if (chairOf[g] == c) {
                    who |= 1 << g;
                }
            }
            return who;
        }

        int whoSitsAt(int c) {
            for (int g = 0; g < hall.guests; g++) {
                if (chairOf[g] == c && isSeated(g)) {
                    return g;
                }
            }
            return NONE;
        }

        int whyNotSit(int g) {
            if (isSeated(g)) {
                return 1;
            }
            if ((taken >> chairOf[g] & 1) == 1) {
                return 2;
            }
            return (hidden >> chairOf[g] & 1) == 1 ? 3 : 0;
        }

        int whyNotRise(int g) {
            return isSeated(g) ? 0 : 1;
        }

        int whyNotServe(int d) {
            return (served >> d & 1) == 1 ? 1 : 0;
        }

        int whyNotHide(int c) {
            if (!hall.hasChair(c)) {
                return 1;
            }
            if ((hidden >> c & 1) == 1) {
                return 2;
            }
            if ((taken >> c & 1) == 1) {
                return 3;
            }
            return canStillBeHidden() < 1 ? 4 : 0;
        }

        int whyNotShow(int c) {
            if (!hall.hasChair(c)) {
                return 1;
            }
            return (hidden >> c & 1) == 1 ? 0 : 2;
        }

        /** How many more CHAIRS can be hidden so that there is one for each GUEST. */
        int canStillBeHidden() {
            return hall.chairs - Integer.bitCount(hidden) - hall.guests;
        }

        void sitDown(int g) {
            sitting |= 1 << g;
            taken |= 1 << chairOf[g];
            if (hall.guests - Integer.bitCount(sitting) == 1) {
                endFeast();
            }
        }

        void standUp(int g) {
            sitting &= ~(1 << g);
            taken &= ~(1 << chairOf[g]);
        }

        void bring(int d) {
            served |= 1 << d;
        }

        private void endFeast() {
            int cost = hall.costOf(served);
            for (int g = 0; g < hall.guests; g++) {
                if (!isSeated(g)) {
                    host = g;
                    hosted[g]++;
                    settle(hall.payer[g], cost);
                }
                tired[g] = 0;
            }
            sitting = 0;
            taken = 0;
            served = 0;
            over++;
        }

        /** Calls nothing: it is the eighth call deep already, which is as deep as calls may go. */
        private void settle(int payer, int cost) {
            int part = cost < coins[payer] ? cost : coins[payer];
            int owes = owed[payer] + cost - part;
            coins[payer] -= part;
            paid[payer] += part;
            paidInAll += part;
            owed[payer] = owes < MOST_OWED ? owes : MOST_OWED;
        }

        /** A ROUND in which one GUEST (or NONE) does not sit of himself; true: a FEAST is over by it. */
        boolean goRound(int standsOn) {
            int before = over;
            round++;
            for (int g = 0; g < hall.guests && over == before; g++) {
                if (!isSeated(g)) {
                    chairOf[g] = onFrom(g, 1);
                    tired[g] = Math.min(MOST_TIRED, tired[g] + 1);
                    if (g != standsOn && tired[g] >= hall.pride[g] && whyNotSit(g) == 0) {
                        sitDown(g);
                    }
                }
            }
            return over != before;
        }

        private int onFrom(int g, int rounds) {
            int all = hall.chairs;
            return all > 0 ? (chairOf[g] + rounds * hall.speed[g]) % all : 0;
        }

        int roundsTill(int g, int c) {
            for (int k = 0; k < hall.chairs; k++) {
                if (onFrom(g, k) == c) {
                    return k;
                }
            }
            return NONE;
        }

        /** How many of n ROUNDS DRAWN went by. */
        int goDrawn(int n, int seed) {
            lot = seed;
            int went = 0;
            while (went < n && round < LAST_ROUND) {
                drawDeeds();
                goRound(NONE);
                went++;
            }
            return went;
        }

        private void drawDeeds() {
            if (hall.dishes > 0 && draw(2) == 0) {
                bring(draw(hall.dishes));
            }
            for (int g = 0; g < hall.guests; g++) {
                int wish = draw(8);
                if (wish == 0 && whyNotSit(g) == 0) {
                    sitDown(g);
                } else if (wish == 1 && isSeated(g)) {
                    standUp(g);
                }
            }
        }

        private int draw(int n) {
            lot = lot * 1103515245 + 12345;
            return n > 0 ? (lot >>> 8) % n : 0;
        }
    }

    /** The latest acts that can be undone, as what was so ahead of each: a ring. */
    private static final class Acts {
        static final int MOST = 8;
        final Feast[] ahead;
        int kept;
        int last;

        Acts(Hall hall) {
            ahead = new Feast[MOST];
            for (int i = 0; i < MOST; i++) {
                ahead[i] = new Feast(hall);
            }
        }

        void keep(Feast feast) {
            last = last + 1 & MOST - 1;
            ahead[last].copyFrom(feast);
            kept = Math.min(MOST, kept + 1);
        }

        int takeBack(Feast feast) {
            if (kept < 1) {
                return NONE;
            }
            feast.copyFrom(ahead[last]);
            last = last - 1 & MOST - 1;
            kept--;
            return kept;
        }
    }

    /** What would go on, tried on a FEAST of its own; and what of it was told last. */
    private static final class Seer {
        final Hall hall;
        final Feast feast;
        final Feast trial;
        final int[] listedHosts;
        int hostsListed;
        int nextBehind;
        int trickChairs;
        int pushedGuests;
        int menuDishes;
        int watchAt;

        Seer(Feast feast) {
            this.feast = feast;
            hall = feast.hall;
            trial = new Feast(feast.hall);
            listedHosts = new int[MOST_HOSTS];
            nextBehind = NONE;
            trickChairs = NONE;
            pushedGuests = NONE;
            menuDishes = NONE;
            watchAt = NONE;
        }

        int hostNext() {
            trial.copyFrom(feast);
            int host = hostOfTrial();
            if (host != NONE) {
                nextBehind = trial.round - feast.round;
            }
            return host;
        }

        /**
         * NEXT by the trial. When nobody sat for so many ROUNDS that all are weary and have
         * then gone all round, nobody ever will: the rest of the 99 ROUNDS is not tried.
         */
        private int hostOfTrial() {
            int quiet = 0;
            for (int k = 0; k < 99 && trial.round < LAST_ROUND && quiet < MOST_PRIDE + hall.chairs; k++) {
                int before = trial.sitting;
                if (trial.goRound(NONE)) {
                    return trial.host;
                }
                quiet = trial.sitting == before ? quiet + 1 : 0;
            }
            return NONE;
        }

        int longestLinger(int g) {
            trial.copyFrom(feast);
            int longest = NONE;
            for (int k = 0; k <= 20; k++) {
                if (trial.whyNotSit(g) == 0) {
                    longest = k;
                }
                if (trial.goRound(g)) {
                    return longest;
                }
            }
            return longest;
        }

        int fewestHidden(int g) {
            int not = feast.hidden | feast.taken;
            int most = feast.canStillBeHidden();
            for (int n = 0; n <= most; n++) {
                for (int some = 0; some < 1 << hall.chairs; some++) {
                    if ((some & not) == 0 && Integer.bitCount(some) == n && isNextBehind(g, some)) {
                        trickChairs = some;
                        return n;
                    }
                }
            }
            return NONE;
        }

        private boolean isNextBehind(int g, int chairs) {
            trial.copyFrom(feast);
            trial.hidden |= chairs;
            return hostOfTrial() == g;
        }

        int fewestPushed(int g) {
            int not = feast.sitting | 1 << g;
            for (int n = 0; n < hall.guests; n++) {
                for (int some = 0; some < 1 << hall.guests; some++) {
                    if ((some & not) == 0 && Integer.bitCount(some) == n && isHostBy(g, some)) {
                        pushedGuests = some;
                        return n;
                    }
                }
            }
            return NONE;
        }

        private boolean isHostBy(int g, int others) {
            trial.copyFrom(feast);
            for (int h = 0; h < hall.guests; h++) {
                if ((others >> h & 1) == 1) {
                    if (trial.whyNotSit(h) != 0) {
                        return false;
                    }
                    trial.sitDown(h);
                }
            }
            return (trial.over != feast.over ? trial.host : hostOfTrial()) == g;
        }

        int safeChairs(int g) {
            int safe = 0;
            for (int c = 0; c < hall.chairs; c++) {
                trial.copyFrom(feast);
                trial.chairOf[g] = c;
                if (hostOfTrial() != g) {
                    safe |= 1 << c;
                }
            }
            return safe;
        }

        int hostList(int cost) {
            trial.copyFrom(feast);
            hostsListed = 0;
            for (int k = 0; k < MOST_HOSTS; k++) {
                int host = richestPaidFor();
                if (host == NONE || trial.coins[hall.payer[host]] < cost) {
                    return hostsListed;
                }
                trial.coins[hall.payer[host]] -= cost;
                listedHosts[k] = host;
                hostsListed++;
            }
            return hostsListed;
        }

        private int richestPaidFor() {
            int best = NONE;
            for (int g = 0; g < hall.guests; g++) {
                if (best == NONE || trial.coins[hall.payer[g]] > trial.coins[hall.payer[best]]) {
                    best = g;
                }
            }
            return best;
        }

        int chairsGone(int rounds, int guests) {
            int gone = sitBehind(0, rounds) == guests ? 1 << 9 : 0;
            for (int c = 0; c < hall.chairs; c++) {
                if (sitBehind(1 << c, rounds) == guests) {
                    gone |= 1 << c;
                }
            }
            return gone;
        }

        private int sitBehind(int chairs, int rounds) {
            trial.copyFrom(feast);
            trial.hidden |= chairs;
            for (int k = 0; k < rounds; k++) {
                trial.goRound(NONE);
            }
            return trial.sitting;
        }

        int mostDishes() {
            int limit = fewestCoinsOfPayers();
            int best = 0;
            for (int some = 1; some < 1 << hall.dishes; some++) {
                int cost = hall.costOf(some);
                int more = Integer.bitCount(some) - Integer.bitCount(best);
                if (cost <= limit && (more > 0 || more == 0 && cost < hall.costOf(best))) {
                    best = some;
                }
            }
            menuDishes = best;
            return Integer.bitCount(best);
        }

        /** Without GUESTS there is no limit. */
        private int fewestCoinsOfPayers() {
            int fewest = NO_LIMIT;
            for (int g = 0; g < hall.guests; g++) {
                fewest = Math.min(fewest, feast.coins[hall.payer[g]]);
            }
            return fewest;
        }

        int pridesBy(Tape tape) {
            int pairs = tape.size / 2;
            if (tape.size % 2 != 0 || pairs < 1 || pairs > 8) {
                return NONE;
            }
            int prides = (1 << MOST_PRIDE + 1) - 1;
            for (int i = 0; i < pairs; i++) {
                int sat = tape.at(2 * i + 1);
                if (sat > 1) {
                    return NONE;
                }
                int upTo = pridesUpTo(tape.at(2 * i));
                prides &= sat == 1 ? upTo : ~upTo;
            }
            if (prides > 0) {
                watchAt = bestWatch(prides);
            }
            return prides;
        }

        /** Prides for which one who is so TIRED sits. */
        private static int pridesUpTo(int tired) {
            return (1 << Math.min(tired, MOST_PRIDE) + 1) - 1;
        }

        private static int bestWatch(int prides) {
            int best = 0;
            int least = MOST_PRIDE + 2;
            for (int t = 0; t <= MOST_PRIDE; t++) {
                int sits = Integer.bitCount(prides & pridesUpTo(t));
                int left = Math.max(sits, Integer.bitCount(prides) - sits);
                if (left < least) {
                    least = left;
                    best = t;
                }
            }
            return best;
        }

        int seedsThatMakeHost(int g, int n, int seed) {
            int seeds = 0;
            for (int i = 0; i < n; i++) {
                trial.copyFrom(feast);
                trial.goDrawn(20, seed + i);
                if (trial.hosted[g] > feast.hosted[g]) {
                    seeds++;
                }
            }
            return seeds;
        }
    }

    /** A BOOK, read and judged. */
    private static final class Ledger {
        static final int MOST_LINES = 40;
        final Reader reader;
        final Hall hall;
        /** What each LINE does: SITS, RISES, SERVE, HIDE, SHOW or ROUND. */
        final int[] deed;
        /** The GUEST, DISH, CHAIR or how many ROUNDS. */
        final int[] what;
        int lines;
        boolean judged;
        int why;
        int lived;
        int roundThen;
        int sittingThen;

        Ledger(Reader reader, Hall hall) {
            this.reader = reader;
            this.hall = hall;
            deed = new int[MOST_LINES];
            what = new int[MOST_LINES];
        }

        /** False: a FAULT. */
        boolean read() {
            reader.open(400);
            lines = 0;
            for (int i = 0; i <= MOST_LINES; i++) {
                if (reader.kind == Reader.END) {
                    return true;
                }
                if (!readLine()) {
                    return false;
                }
            }
            return false;
        }

        private boolean readLine() {
            int key = reader.key;
            boolean byGuest = reader.isName();
            if (!byGuest && (key < SERVE || key > ROUND)) {
                return reader.refuse(FAULT_TOKEN);
            }
            if (byGuest && hall.guestNamed(reader.word) == NONE) {
                return reader.refuse(FAULT_NAME);
            }
            if (lines >= MOST_LINES) {
                return reader.refuse(FAULT_MANY);
            }
            if (!(byGuest ? readGuestDeed() : readOtherDeed(key))) {
                return false;
            }
            lines++;
            return reader.takeSign(';');
        }

        private boolean readGuestDeed() {
            if (!reader.takeNamed(hall.guestNamed(reader.word))) {
                return false;
            }
            if (!reader.isKey(SITS) && !reader.isKey(RISES)) {
                return reader.refuse(FAULT_TOKEN);
            }
            deed[lines] = reader.key;
            what[lines] = reader.taken;
            reader.step();
            return true;
        }

        private boolean readOtherDeed(int key) {
            reader.step();
            boolean good;
            if (key == SERVE) {
                good = reader.takeNamed(hall.dishNamed(reader.word));
            } else if (key == ROUND) {
                good = reader.takeNumber(1, MOST_AT_ONCE);
            } else {
                good = reader.takeNumber(0, MOST_CHAIRS - 1);
            }
            deed[lines] = key;
            what[lines] = reader.taken;
            return good;
        }

        /** Lives the LINES up to the first that is WRONG. */
        void judge(Feast feast) {
            judged = true;
            why = 0;
            lived = 0;
            for (int i = 0; i < lines && why == 0; i++) {
                why = liveLine(feast, deed[i], what[i]);
                if (why == 0) {
                    lived++;
                }
            }
            roundThen = feast.round;
            sittingThen = feast.sitting;
        }

        private static int liveLine(Feast feast, int deed, int what) {
            switch (deed) {
                case SITS: return liveSitting(feast, what);
                case RISES: return liveRising(feast, what);
                case SERVE: return liveServing(feast, what);
                case HIDE: return liveHiding(feast, what);
                case SHOW: return liveShowing(feast, what);
                default: return liveRounds(feast, what);
            }
        }

        private static int liveSitting(Feast feast, int g) {
            int no = feast.whyNotSit(g);
            if (no == 0) {
                feast.sitDown(g);
            }
            return no;
        }

        private static int liveRising(Feast feast, int g) {
            int no = feast.whyNotRise(g);
            if (no == 0) {
                feast.standUp(g);
            }
            return no == 0 ? 0 : 10 + no;
        }

        private static int liveServing(Feast feast, int d) {
            int no = feast.whyNotServe(d);
            if (no == 0) {
                feast.bring(d);
            }
            return no == 0 ? 0 : 20 + no;
        }

        private static int liveHiding(Feast feast, int c) {
            int no = feast.whyNotHide(c);
            if (no == 0) {
                feast.hidden |= 1 << c;
            }
            return no == 0 ? 0 : 30 + no;
        }

        private static int liveShowing(Feast feast, int c) {
            int no = feast.whyNotShow(c);
            if (no == 0) {
                feast.hidden &= ~(1 << c);
            }
            return no == 0 ? 0 : 40 + no;
        }

        private static int liveRounds(Feast feast, int n) {
            if (n > LAST_ROUND - feast.round) {
                return 51;
            }
            for (int k = 0; k < n; k++) {
                feast.goRound(NONE);
            }
            return 0;
        }
    }

    /** A SENTENCE as steps on a pile of sets of GUESTS: what joins others stands behind them. */
    private static final class Saying {
        static final int MOST_ONES = 20;
        /** Each ONE makes a step at most, and so does each 'and' and 'or' between them. */
        static final int MOST_STEPS = 2 * MOST_ONES;
        final int[] step;
        final int[] sign;
        final int[] value;
        final int[] pile;
        int length;
        int ones;

        Saying() {
            step = new int[MOST_STEPS];
            sign = new int[MOST_STEPS];
            value = new int[MOST_STEPS];
            pile = new int[MOST_ONES];
        }

        void clear() {
            length = 0;
            ones = 0;
        }

        void copyFrom(Saying other) {
            System.arraycopy(other.step, 0, step, 0, MOST_STEPS);
            System.arraycopy(other.sign, 0, sign, 0, MOST_STEPS);
            System.arraycopy(other.value, 0, value, 0, MOST_STEPS);
            length = other.length;
            ones = other.ones;
        }

        boolean add(int aStep, int aSign, int aValue) {
            if (length >= MOST_STEPS) {
                return false;
            }
            step[length] = aStep;
            sign[length] = aSign;
            value[length] = aValue;
            length++;
            return true;
        }

        /** GUESTS of whom it may be said, as bits. */
        int trueOf(Feast feast) {
            int all = (1 << feast.hall.guests) - 1;
            int high = 0;
            for (int i = 0; i < length; i++) {
                if (step[i] == NOT) {
                    if (high > 0) {
                        pile[high - 1] = all & ~pile[high - 1];
                    }
                } else if (step[i] == AND || step[i] == OR) {
                    if (high > 1) {
                        high--;
                        int both = pile[high - 1] & pile[high];
                        pile[high - 1] = step[i] == AND ? both : pile[high - 1] | pile[high];
                    }
                } else if (high < MOST_ONES) {
                    pile[high] = plainOne(feast, i);
                    high++;
                }
            }
            return high > 0 ? pile[0] : 0;
        }

        private int plainOne(Feast feast, int i) {
            int of = 0;
            for (int g = 0; g < feast.hall.guests; g++) {
                if (holds(feast, g, i)) {
                    of |= 1 << g;
                }
            }
            return of;
        }

        private boolean holds(Feast feast, int g, int i) {
            int v = value[i];
            switch (step[i]) {
                case SEATED: return feast.isSeated(g);
                case RUINED: return feast.owed[g] > 0;
                case WEARY: return feast.tired[g] >= feast.hall.pride[g];
                case BY: return feast.hall.hasGuest(v) && feast.chairOf[g] == feast.chairOf[v];
                case FOR: return feast.hall.hasGuest(v) && feast.hall.payer[v] == g;
                case COINS: return compares(feast.coins[g], sign[i], v);
                case TIRED: return compares(feast.tired[g], sign[i], v);
                case HOSTED: return compares(feast.hosted[g], sign[i], v);
                default: return compares(g, sign[i], v);
            }
        }

        private static boolean compares(int a, int aSign, int b) {
            return aSign == '<' ? a < b : aSign == '>' ? a > b : a == b;
        }
    }

    /** Reads a SENTENCE's text into one of its own, so that a FAULT leaves the old one alone. */
    private static final class SayingText {
        static final int MOST_WITHIN = 8;
        final Reader reader;
        final Hall hall;
        final Saying told;

        SayingText(Reader reader, Hall hall) {
            this.reader = reader;
            this.hall = hall;
            told = new Saying();
        }

        /** False: a FAULT. */
        boolean read() {
            reader.open(200);
            told.clear();
            if (!readCond(1)) {
                return false;
            }
            return reader.kind == Reader.END || reader.refuse(FAULT_TOKEN);
        }

        private boolean readCond(int within) {
            if (!readAll(within)) {
                return false;
            }
            for (int i = 0; i < Saying.MOST_ONES && reader.isKey(OR); i++) {
                reader.step();
                if (!readAll(within) || !told.add(OR, 0, 0)) {
                    return false;
                }
            }
            return true;
        }

        private boolean readAll(int within) {
            if (!readOne(within)) {
                return false;
            }
            for (int i = 0; i < Saying.MOST_ONES && reader.isKey(AND); i++) {
                reader.step();
                if (!readOne(within) || !told.add(AND, 0, 0)) {
                    return false;
                }
            }
            return true;
        }

        private boolean readOne(int within) {
            boolean bracket = reader.kind == '(';
            int key = reader.key;
            if (!bracket && (key < NOT || key > NUMBER)) {
                return reader.refuse(FAULT_TOKEN);
            }
            if (told.ones >= Saying.MOST_ONES || within > MOST_WITHIN) {
                return reader.refuse(FAULT_MANY);
            }
            told.ones++;
            reader.step();
            if (bracket) {
                return readCond(within + 1) && reader.takeSign(')');
            }
            int sign = reader.kind == '<' || reader.kind == '>' ? reader.kind : '=';
            switch (key) {
                case NOT: return readOne(within + 1) && told.add(NOT, 0, 0);
                case BY:
                case FOR: return reader.takeNamed(hall.guestNamed(reader.word)) && told.add(key, 0, reader.taken);
                case COINS:
                case TIRED:
                case HOSTED:
                case NUMBER: return reader.takeSign(sign) && reader.takeNumber(0, 999) && told.add(key, sign, reader.taken);
                default: return told.add(key, 0, 0);
            }
        }
    }

    /** All that image() keeps in a place. */
    private static final class Image {
        final Hall hall;
        final Feast feast;
        final Saying saying;
        boolean isThere;

        Image() {
            hall = new Hall();
            feast = new Feast(hall);
            saying = new Saying();
        }
    }
}
