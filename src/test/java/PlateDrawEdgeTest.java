/** Boundary cases of PLATES and of ROUNDS DRAWN: promises 33 to 36. */
public final class PlateDrawEdgeTest extends Ask {
    private static final int[] FAR = {Integer.MIN_VALUE, -2, -1, 7, 8, 31, 32, 33, 64, Integer.MAX_VALUE};
    private static final int[] SEEDS = {Integer.MIN_VALUE, Integer.MIN_VALUE + 1, -12345, -2, -1, 0, 1, 2, 255, 256,
        12345, 1103515245, Integer.MAX_VALUE - 1, Integer.MAX_VALUE};

    /** "NONE: no such one": the PLATE stays. */
    static void p33_noSuchOne() {
        LastSeat x = hall(THREE);
        for (int g : FAR) due("plate(" + g + ")", NONE, x.plate(g));
        due("there is none", NONE, x.byteAt(0));
        due("plate(2)", 14, x.plate(2));
        due("plate(3)", NONE, x.plate(3));
        due("the PLATE stays", 'c', x.byteAt(0));
        due("without GUESTS", NONE, new LastSeat().plate(0));
    }

    /** The shortest and the longest. */
    static void p33_shortestAndLongest() {
        LastSeat x = hall("chairs 9;guest a 0 9 0 0;guest abcdefg 0 9 0 8;guest z 0 9 0 4;" + dishes(6, 99));
        x.sit(0);
        due("bytes", 11, x.plate(0));
        same("one letter, who sits", "a sits at 0", plate(x, 0));
        for (int d = 0; d < 6; d++) x.serve(d);
        x.sit(2);
        due("bytes", 28, x.plate(1));
        same("seven letters, who owes", "abcdefg stands at 8 owes 594", plate(x, 1));
        due("behind its last byte", NONE, x.byteAt(28));
    }

    /** "then ' owes ' .., if he OWES": not if he paid all he had to. */
    static void p33_ifHeOwes() {
        LastSeat x = hall("chairs 2;guest a 0 9 0 0;guest b 2 9 0 1;dish x 2;dish y 1;");
        x.serve(0);
        x.sit(0);
        same("he paid with his last coin", "b stands at 1", plate(x, 1));
        x.serve(1);
        x.sit(0);
        same("he owes", "b stands at 1 owes 1", plate(x, 1));
        same("a does not", "a stands at 0", plate(x, 0));
    }

    private static LastSeat owing(LastSeat x, int feasts) {
        for (int k = 0; k < feasts; k++) {
            for (int d = 0; d < x.count(2); d++) x.serve(d);
            x.sit(0);
        }
        return x;
    }

    /** "how much as digits": one to five of them. */
    static void p33_digits() {
        String two = "chairs 2;guest a 0 9 0 0;guest b 0 9 0 1;";
        int[][] all = {{1, 1}, {9, 1}, {10, 1}, {11, 1}, {99, 1}, {50, 2}, {99, 2}};
        for (int[] of : all) {
            same(of[0] + " times " + of[1], "b stands at 1 owes " + of[0] * of[1], plate(owing(hall(two + "dish x " + of[0] + ";"), of[1]), 1));
        }
        String five = two + dishes(5, 99) + "dish x 5;";
        same("three digits", "b stands at 1 owes 500", plate(owing(hall(five), 1), 1));
        same("four digits", "b stands at 1 owes 1000", plate(owing(hall(five), 2), 1));
        same("four digits", "b stands at 1 owes 9500", plate(owing(hall(five), 19), 1));
        same("five digits", "b stands at 1 owes 10000", plate(owing(hall(five), 20), 1));
    }

    /** "NONE: none such" */
    static void p34_noneSuch() {
        LastSeat x = hall(THREE);
        due("ahead of any", NONE, x.byteAt(0));
        due("plate(0)", 15, x.plate(0));
        due("the first", 'a', x.byteAt(0));
        due("the last", '0', x.byteAt(14));
        due("behind it", NONE, x.byteAt(15));
        for (int i : new int[] {Integer.MIN_VALUE, -1, 16, 39, 40, 41, Integer.MAX_VALUE}) due("byteAt(" + i + ")", NONE, x.byteAt(i));
    }

    /** "of the latest PLATE": a shorter one has nothing of a longer one ahead of it. */
    static void p34_theLatest() {
        LastSeat x = hall(THREE);
        due("ann stands at 0", 15, x.plate(0));
        due("cy stands at 2", 14, x.plate(2));
        due("its last byte", '2', x.byteAt(13));
        due("none behind it", NONE, x.byteAt(14));
        hall(x, "");
        x.plate(0);
        due("a new HALL leaves it", '2', x.byteAt(13));
    }

    /** "n (1 to 60) .. NONE: not as told" */
    static void p35_oneTo60() {
        LastSeat x = hall(THREE);
        String before = stateOf(x);
        for (int n : new int[] {Integer.MIN_VALUE, -1, 0, 61, 400, Integer.MAX_VALUE}) {
            due("drawn(" + n + ", 1)", NONE, x.drawn(n, 1));
            same("all stays", before, stateOf(x));
        }
        due("nothing was done", NONE, x.undo());
        due("drawn(1, 1)", 1, x.drawn(1, 1));
        due("drawn(60, 1)", 60, x.drawn(60, 1));
        due("the ROUND", 61, x.now(0));
        due("two acts", 1, x.undo());
    }

    /** "how many went by": till ROUND 400. */
    static void p35_round400() {
        LastSeat x = hall(THREE);
        allRounds(x, 360);
        due("40 are left", 40, x.drawn(60, 7));
        due("ROUND 400", 400, x.now(0));
        String before = stateOf(x);
        due("none is left", 0, x.drawn(60, 7));
        due("none is left", 0, x.drawn(1, 7));
        same("all stays: nobody draws either", before, stateOf(x));
        x.undo();
        x.rounds(39);
        due("one is left", 1, x.drawn(2, 7));
        due("it can be undone", 7, x.undo());
        due("ROUND 399", 399, x.now(0));
    }

    /** Draws by longs, kept to 32 bits by hand: what an int does by wrapping. */
    private static final class Draws {
        private long x;

        Draws(int seed) {
            x = seed & 0xffffffffL;
        }

        int of(int n) {
            x = x * 1103515245L + 12345L & 0xffffffffL;
            return (int) ((x >> 8) % n);
        }
    }

    /** ROUNDS DRAWN, act by act. */
    private static void byHand(LastSeat x, int n, int seed) {
        Draws draws = new Draws(seed);
        for (int k = 0; k < n; k++) {
            if (x.count(2) > 0 && draws.of(2) == 0) x.serve(draws.of(x.count(2)));
            for (int g = 0; g < x.count(1); g++) {
                int d = draws.of(8);
                if (d == 0) x.sit(g);
                if (d == 1) x.rise(g);
            }
            x.rounds(1);
        }
    }

    private static void drawnLikeByHand(String text, int n) {
        for (int seed : SEEDS) {
            LastSeat x = hall(text);
            LastSeat y = hall(text);
            due("drawn(" + n + ", " + seed + ")", n, x.drawn(n, seed));
            byHand(y, n, seed);
            same("by seed " + seed + " in " + text, stateOf(y), stateOf(x));
        }
    }

    /** "x becomes x * 1103515245 + 12345 (an int, wrapping), the draw is (x >>> 8) % n" */
    static void p35_wrapping() {
        drawnLikeByHand(THREE, 1);
        drawnLikeByHand(THREE, 25);
        drawnLikeByHand(TWO, 25);
        drawnLikeByHand(FULL, 20);
        drawnLikeByHand(POOR, 25);
    }

    /** "a draw of 2 (no DISHES: no draw)"; one DISH is drawn, too. */
    static void p35_noDishesAndOne() {
        drawnLikeByHand("guest a 0 9 1 0;guest b 0 9 1 1;guest c 0 9 1 2;", 12);
        drawnLikeByHand("guest a 0 9 1 0;guest b 0 9 1 1;guest c 0 9 1 2;dish d 9;", 12);
        drawnLikeByHand(ALONE, 20);
    }

    /** Without GUESTS the DISHES are drawn alone; without both the ROUNDS just go. */
    static void p35_noGuests() {
        drawnLikeByHand("dish d 9;dish e 8;dish f 7;", 5);
        drawnLikeByHand("", 5);
    }

    /** Of two draws known by hand: 12345 >>> 8 is 48, which is even. */
    static void p35_aKnownSeed() {
        LastSeat x = hall("dish d 9;");
        x.drawn(1, 0);
        due("it is SERVED by seed 0", 1, x.now(2));
        LastSeat y = hall("chairs 3;guest a 0 9 0 0;guest b 0 9 0 1;guest c 0 9 0 2;");
        y.drawn(1, 0);
        // 48 % 8 is 0: a sits
        due("a sits by seed 0", 1, y.now(1) & 1);
    }

    /** "n (1 to 30) .. NONE: no such ones" */
    static void p36_noSuchOnes() {
        LastSeat x = hall(THREE);
        for (int g : FAR) due("odds(" + g + ", 1, 1)", NONE, x.odds(g, 1, 1));
        due("odds(3, 1, 1)", NONE, x.odds(3, 1, 1));
        for (int n : new int[] {Integer.MIN_VALUE, -1, 0, 31, 32, Integer.MAX_VALUE}) due("odds(0, " + n + ", 1)", NONE, x.odds(0, n, 1));
        due("odds(2, 1, 1)", true, x.odds(2, 1, 1) >= 0);
        due("odds(2, 30, 1)", true, x.odds(2, 30, 1) >= 0);
        due("without GUESTS", NONE, new LastSeat().odds(0, 1, 1));
        due("one alone", 0, hall(ALONE).odds(0, 30, 1));
        due("who is HOST in each ROUND", 30, hall("chairs 2;guest a 0 0 0 0;guest b 0 0 0 1;").odds(1, 30, 1));
    }

    /** 1 if a GUEST is HOST in n ROUNDS DRAWN by a seed from what is so in x. */
    private static int hostIn(LastSeat x, int g, int n, int seed) {
        x.image(1);
        int before = x.guest(g, 6);
        x.drawn(n, seed);
        int is = x.guest(g, 6) > before ? 1 : 0;
        x.restore(1);
        return is;
    }

    /** "seeds x, x and 1, ..": they wrap, too. */
    static void p36_seedsWrap() {
        for (int g = 0; g < 3; g++) {
            LastSeat x = hall(THREE);
            for (int n = 1; n <= 30; n += 29) {
                int many = 0;
                for (int i = 0; i < n; i++) many += hostIn(x, g, 20, Integer.MAX_VALUE - 3 + i);
                due("odds(" + g + ", " + n + ", ..)", many, x.odds(g, n, Integer.MAX_VALUE - 3));
            }
        }
    }

    /** "some time in 20 ROUNDS DRAWN": in the twentieth, but not in the twenty-first. */
    static void p36_20Rounds() {
        int last = 0;
        int tooLate = 0;
        for (int seed = 0; seed < 4000 && (last < 3 || tooLate < 3); seed++) {
            LastSeat x = hall("chairs 3;guest a 0 9 0 0;guest b 0 9 0 1;");
            int in19 = hostIn(x, 0, 19, seed);
            int in20 = hostIn(x, 0, 20, seed);
            int in21 = hostIn(x, 0, 21, seed);
            if (in19 == 0 && in20 == 1) {
                last++;
                due("in the twentieth by " + seed, 1, x.odds(0, 1, seed));
            }
            if (in20 == 0 && in21 == 1) {
                tooLate++;
                due("in the twenty-first by " + seed, 0, x.odds(0, 1, seed));
            }
        }
        due("there were some of both", true, last > 0 && tooLate > 0);
    }

    /** "from now on": who was HOST ahead of that does not count; at ROUND 400 no more ROUNDS go. */
    static void p36_fromNowOn() {
        LastSeat x = hall(THREE);
        x.rounds(3);
        due("cy was HOST", 1, x.guest(2, 6));
        for (int seed = 0; seed < 12; seed++) due("by " + seed, hostIn(x, 2, 20, seed), x.odds(2, 1, seed));
        allRounds(x, 392);
        for (int seed = 0; seed < 12; seed++) due("in five ROUNDS by " + seed, hostIn(x, 2, 20, seed), x.odds(2, 1, seed));
        due("there are five", 5, x.rounds(60));
        for (int g = 0; g < 3; g++) due("none is left", 0, x.odds(g, 30, 5));
    }

    /** All stays as it is. */
    static void p36_allStays() {
        LastSeat x = hall(THREE);
        x.serve(0);
        String before = stateOf(x);
        x.odds(0, 30, 1);
        same("all stays", before, stateOf(x));
        due("no act but one", 0, x.undo());
    }

    public static void main(String[] args) throws Exception {
        runAll(PlateDrawEdgeTest.class);
    }
}
