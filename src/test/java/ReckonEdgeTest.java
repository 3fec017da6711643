/** Boundary cases of what is reckoned from HALL, tape and coins: promises 24 to 32. */
public final class ReckonEdgeTest extends Ask {
    private static final int[] FAR = {Integer.MIN_VALUE, -2, -1, 9, 10, 31, 32, 33, 64, Integer.MAX_VALUE};

    private static LastSeat rich(int coins) {
        return hall("guest a " + coins + " 1 1 1;");
    }

    /** "HOSTS for n (1 to 999) .. NONE: not as told" */
    static void p24_oneTo999() {
        LastSeat x = rich(999);
        for (int n : new int[] {Integer.MIN_VALUE, -1, 0, 1000, 1001, Integer.MAX_VALUE}) due("hosts(" + n + ")", NONE, x.hosts(n));
        due("nothing was told", NONE, x.hostAt(0));
        due("hosts(1)", 99, x.hosts(1));
        due("hosts(999)", 1, x.hosts(999));
        due("without GUESTS", 0, new LastSeat().hosts(1));
        due("without GUESTS", 0, new LastSeat().hosts(999));
        due("without GUESTS", NONE, new LastSeat().hosts(0));
    }

    /** "as long as that one has n" */
    static void p24_asLongAsHeHasThem() {
        due("999 of 999", 1, rich(999).hosts(999));
        due("999 of 998", 0, rich(998).hosts(999));
        due("10 of 20", 2, rich(20).hosts(10));
        due("10 of 19", 1, rich(19).hosts(10));
        due("1 of 0", 0, rich(0).hosts(1));
        due("1 of 1", 1, rich(1).hosts(1));
    }

    /** "99 times at most" */
    static void p24_99TimesAtMost() {
        due("98 coins", 98, rich(98).hosts(1));
        due("99 coins", 99, rich(99).hosts(1));
        due("100 coins", 99, rich(100).hosts(1));
        LastSeat x = hall("guest a 60 1 1 1;guest b 60 1 1 1;");
        due("of two", 99, x.hosts(1));
        due("by turns to the last", 0, x.hostAt(98));
        due("and no more", NONE, x.hostAt(99));
    }

    /** "the GUEST for whom one pays who has most coins left (of like ones the first GUEST)" */
    static void p24_mostCoinsLeft() {
        LastSeat x = hall("guest a 5 1 1 1;guest b 6 1 1 1;guest c 6 1 1 1;");
        due("hosts(1)", 17, x.hosts(1));
        // b 5, c 5, then like ones
        int[] want = {1, 2, 0, 1, 2, 0, 1, 2, 0, 1, 2, 0, 1, 2, 0, 1, 2};
        for (int k = 0; k < 17; k++) due("hostAt(" + k + ")", want[k], x.hostAt(k));
        LastSeat y = hall("guest a 1 1 1 1;guest b 2 1 1 1;guest c 9 1 1 1;pays c a;");
        // c pays for a and for himself: a is the first of like ones; who has none of his own is HOST all the same
        due("hosts(3)", 3, y.hosts(3));
        for (int k = 0; k < 3; k++) due("hostAt(" + k + ")", 0, y.hostAt(k));
        LastSeat z = hall("guest a 9 1 1 1;guest b 2 1 1 1;pays b a;");
        due("nobody is paid for by a", 1, z.hosts(2));
        due("a, for whom b pays", 0, z.hostAt(0));
        due("all stays", 9, z.guest(0, 0));
    }

    /** "The k-th HOST (from 0) .. NONE: none such" */
    static void p25_from0() {
        LastSeat x = rich(3);
        due("hosts(1)", 3, x.hosts(1));
        due("hostAt(0)", 0, x.hostAt(0));
        due("hostAt(2)", 0, x.hostAt(2));
        due("hostAt(3)", NONE, x.hostAt(3));
        for (int k : FAR) due("hostAt(" + k + ")", NONE, x.hostAt(k));
        LastSeat y = rich(999);
        y.hosts(1);
        due("hostAt(98)", 0, y.hostAt(98));
        due("hostAt(99)", NONE, y.hostAt(99));
    }

    /** "by the latest hosts() that was not NONE; .. or ahead of any" */
    static void p25_theLatestThatWasNotNone() {
        LastSeat x = hall("guest a 1 1 1 1;guest b 7 1 1 1;");
        due("ahead of any", NONE, x.hostAt(0));
        x.hosts(7);
        due("b", 1, x.hostAt(0));
        x.hosts(0);
        x.hosts(1000);
        due("a NONE leaves it", 1, x.hostAt(0));
        hall(x, "");
        due("a new HALL leaves it", 1, x.hostAt(0));
        x.hosts(1);
        due("0 times do not", NONE, x.hostAt(0));
    }

    /** "(2 bytes: ROUNDS, 1 to 9; GUESTS, as bits) .. NONE: not as told" */
    static void p26_twoBytes() {
        LastSeat x = hall(ALONE);
        due("none", NONE, gone(x, ""));
        due("one", NONE, gone(x, "\u0001"));
        due("three", NONE, gone(x, "\u0001\u0000\u0000"));
        due("four", NONE, gone(x, "\u0001\u0000\u0001\u0000"));
        due("two", 512 + 31, gone(x, "\u0001\u0000"));
        due("a full tape", NONE, gone(x, times("\u0001", 940)));
    }

    static void p26_oneTo9Rounds() {
        LastSeat x = hall(ALONE);
        due("0", NONE, gone(x, 0, 0));
        for (int rounds = 10; rounds < 256; rounds++) due("" + rounds, NONE, gone(rounds % 60 == 0 ? x = hall(ALONE) : x, rounds, 0));
        LastSeat y = hall(ALONE);
        // he sits at 0 in ROUND 2, or at 2 in ROUND 3, if 0 is hidden
        int[] nobody = {0, 543, 1, 0, 0, 0, 0, 0, 0, 0};
        int[] he = {0, 0, 542, 543, 543, 543, 543, 543, 543, 543};
        for (int rounds = 1; rounds <= 9; rounds++) {
            due("nobody behind " + rounds, nobody[rounds], gone(y, rounds, 0));
            due("he behind " + rounds, he[rounds], gone(y, rounds, 1));
        }
        LastSeat z = hall("chairs 2;guest a 0 9 0 0;");
        due("not behind 8", 0, gone(z, 8, 1));
        due("behind 9, unless 0 is hidden", 512 + 2, gone(z, 9, 1));
    }

    /** "just these GUESTS": not more, not fewer, none that are not there. */
    static void p26_justTheseGuests() {
        LastSeat x = hall("chairs 9;guest a 0 9 0 0;guest b 0 9 0 1;guest c 0 0 0 2;guest d 0 0 0 3;"
                + "guest e 0 0 0 4;guest f 0 0 0 5;guest g 0 0 0 6;");
        due("all but a and b", 512 + 256 + 128 + 2 + 1, gone(x, 1, 124));
        due("c can't", 4, gone(x, 1, 120));
        due("g can't", 64, gone(x, 1, 60));
        due("nobody", 0, gone(x, 1, 0));
        due("one more", 0, gone(x, 1, 125));
        due("one that is not there", 0, gone(x, 1, 124 + 128));
        due("all bits", 0, gone(x, 1, 255));
        due("without GUESTS: nobody", 512 + 63, gone(new LastSeat(), 1, 0));
        due("without GUESTS: one", 0, gone(new LastSeat(), 1, 1));
    }

    /** "bit 9: they would as it is": CHAIR 8 has bit 8. */
    static void p26_bit9() {
        LastSeat x = hall("chairs 9;guest a 0 0 1 7;");
        due("he sits at 8", 512 + 255, gone(x, 1, 1));
        due("not, if it is hidden", 256, gone(x, 1, 0));
        due("two CHAIRS", 512 + 1, gone(hall("chairs 2;guest a 0 0 1 0;"), 1, 1));
    }

    /** "(it may be hidden already, somebody may sit there: that one stays)" */
    static void p26_hiddenAlreadyOrSatAt() {
        LastSeat x = hall(ALONE);
        x.hide(0);
        due("as it is, and by 0, too", 512 + 31, gone(x, 2, 0));
        due("he sits at 2 in ROUND 3, unless it is hidden", 512 + 31 - 4, gone(x, 3, 1));
        LastSeat y = hall(ALONE);
        y.sit(0);
        due("he stays at 1", 512 + 31, gone(y, 1, 1));
        due("and behind 9", 512 + 31, gone(y, 9, 1));
        // too few CHAIRS would be left: no matter
        LastSeat z = hall("chairs 2;guest a 0 1 0 0;guest b 0 9 0 1;");
        due("a sits in ROUND 1, and b is HOST: nobody sits", 512 + 3, gone(z, 1, 0));
    }

    /** "FEASTS can be over in between": behind one, one can sit in the same ROUNDS. */
    static void p26_feastsInBetween() {
        LastSeat x = hall("chairs 3;guest a 0 1 0 0;guest b 0 2 0 1;guest c 0 9 0 2;");
        // a sits in ROUND 1, b in ROUND 2: c is HOST; a sits in ROUND 3 again
        due("a behind 1, not by 0", 512 + 6, gone(x, 1, 1));
        // by 0 b alone sits in ROUND 2, by 1 a alone in ROUND 1
        due("nobody behind 2", 512 + 4, gone(x, 2, 0));
        due("b behind 2, by 0", 1, gone(x, 2, 2));
        due("a behind 2, by 1", 2, gone(x, 2, 1));
        due("a behind 3", 512 + 4 + 2, gone(x, 3, 1));
        due("no FEAST is over", 0, x.now(4));
    }

    /** "if it alone was hidden besides": it is so behind a FEAST, too. */
    static void p26_hiddenBehindAFeast() {
        LastSeat x = hall("chairs 6;guest a 0 1 1 0;guest b 0 1 0 4;guest c 0 9 0 5;");
        // in each ROUND a sits, at 1 and at 2, and b at 4: c is HOST; by 2 a can't sit in ROUND 2, by 4 b never
        due("b", 4, gone(x, 2, 2));
        due("a", 16, gone(x, 2, 1));
        due("nobody", 512 + 32 + 8 + 2 + 1, gone(x, 2, 0));
    }

    /** "ROUND 400 no matter." */
    static void p26_round400() {
        LastSeat x = hall("chairs 4;guest a 0 9 0 0;");
        x.hide(0);
        allRounds(x, 399);
        x.show(0);
        due("in ROUND 399", 512 + 14, gone(x, 1, 1));
        x.hide(0);
        x.rounds(1);
        x.show(0);
        due("none is left", 0, x.rounds(1));
        due("all the same", 512 + 14, gone(x, 1, 1));
        due("and 9 ROUNDS", 512 + 14, gone(x, 9, 1));
    }

    /** "NONE: never, no such ones" */
    static void p27_noSuchOnes() {
        LastSeat x = hall(THREE);
        for (int i : FAR) {
            due("when(" + i + ", 0)", NONE, x.when(i, 0));
            due("when(0, " + i + ")", NONE, x.when(0, i));
        }
        due("when(3, 0)", NONE, x.when(3, 0));
        due("when(0, 4)", NONE, x.when(0, 4));
        due("when(0, 3)", 3, x.when(0, 3));
        due("when(2, 2)", 0, x.when(2, 2));
        due("without GUESTS", NONE, new LastSeat().when(0, 0));
    }

    /** "ROUNDS (0: he is)", all round; "never", if he does not come by there. */
    static void p27_allRound() {
        for (int chairs = 2; chairs <= 9; chairs++) {
            for (int speed = 0; speed <= 9; speed++) {
                LastSeat x = hall("chairs " + chairs + ";guest a 0 9 " + speed + " " + (chairs - 1) + ";");
                int[] first = new int[chairs];
                java.util.Arrays.fill(first, NONE);
                int at = chairs - 1;
                for (int k = 0; k < 100; k++) {
                    if (first[at] == NONE) first[at] = k;
                    for (int s = 0; s < speed; s++) at = at + 1 == chairs ? 0 : at + 1;
                }
                for (int c = 0; c < chairs; c++) due(speed + " of " + chairs + " to " + c, first[c], x.when(0, c));
            }
        }
    }

    /** "if he stands on and no FEAST is over" */
    static void p27_ifHeStandsOn() {
        LastSeat x = hall(TWO);
        due("b, though the FEAST is over ahead of it", 2, x.when(1, 0));
        x.hide(1);
        due("a to a hidden one", 1, x.when(0, 1));
        LastSeat y = hall(THREE);
        y.sit(0);
        due("one who sits is there", 0, y.when(0, 0));
        due("and would be at 3, if he stood", 3, y.when(0, 3));
        allRounds(y, 400);
        due("whatever the ROUND", 0, y.when(2, 2));
    }

    private static void menuOf(String text, int many, int which) {
        LastSeat x = hall(text);
        due("menu() of " + text, many, x.menu());
        due("menuOf() of " + text, which, x.menuOf());
    }

    /** "do not cost more than the coins": as much may be. */
    static void p28_notMoreThanTheCoins() {
        menuOf("guest a 0 1 1 1;dish k 1;", 0, 0);
        menuOf("guest a 1 1 1 1;dish k 1;", 1, 1);
        menuOf("guest a 98 1 1 1;dish k 99;", 0, 0);
        menuOf("guest a 99 1 1 1;dish k 99;", 1, 1);
        menuOf("guest a 8 1 1 1;dish k 4;dish l 5;", 1, 1);
        menuOf("guest a 9 1 1 1;dish k 4;dish l 5;", 2, 3);
        menuOf("guest a 593 1 1 1;" + dishes(6, 99), 5, 31);
        menuOf("guest a 594 1 1 1;" + dishes(6, 99), 6, 63);
    }

    /** "(no GUESTS: all)"; no DISHES: none. */
    static void p28_noGuestsNoDishes() {
        menuOf(dishes(6, 99), 6, 63);
        menuOf("dish k 1;", 1, 1);
        menuOf("", 0, 0);
        menuOf("guest a 9 1 1 1;", 0, 0);
    }

    /** "of any GUEST who would have to pay for somebody": for himself, too, if nobody else does. */
    static void p28_whoWouldHaveToPay() {
        menuOf("guest a 9 1 1 1;guest b 3 1 1 1;dish k 4;", 0, 0);
        menuOf("guest a 9 1 1 1;guest b 3 1 1 1;dish k 4;pays a b;", 1, 1);
        menuOf("guest a 9 1 1 1;guest b 3 1 1 1;dish k 4;pays b a;", 0, 0);
        menuOf("guest a 9 1 1 1;guest b 3 1 1 1;dish k 4;pays a b;pays b a;", 0, 0);
    }

    /** "the most DISHES .. of as many those that cost least, then the least as bits" */
    static void p28_ofLikeOnes() {
        menuOf("guest a 9 1 1 1;dish k 9;dish l 4;dish m 5;", 2, 6);
        menuOf("guest a 6 1 1 1;dish k 6;dish l 5;", 1, 2);
        menuOf("guest a 5 1 1 1;dish k 5;dish l 5;", 1, 1);
        menuOf("guest a 9 1 1 1;dish k 5;dish l 4;dish m 5;dish n 4;", 2, 10);
        menuOf("guest a 9 1 1 1;dish k 3;dish l 3;dish m 3;dish n 3;", 3, 7);
        menuOf("guest a 5 1 1 1;dish k 2;dish l 3;dish m 3;dish n 2;", 2, 9);
        menuOf("guest a 6 1 1 1;dish k 3;dish l 3;dish m 1;dish n 5;", 2, 5);
    }

    /** What is SERVED does not matter, what was paid does. */
    static void p28_coinsNow() {
        LastSeat x = hall(TWO);
        due("9 coins", 1, x.menu());
        x.serve(0);
        due("SERVED or not", 1, x.menu());
        due("x", 1, x.menuOf());
        x.sit(0);
        due("b has 4 left", 0, x.menu());
    }

    /** "by the latest menu(); NONE ahead of any" */
    static void p29_theLatest() {
        LastSeat x = hall(TWO);
        due("ahead of any", NONE, x.menuOf());
        x.menu();
        due("x", 1, x.menuOf());
        hall(x, "");
        due("a new HALL leaves it", 1, x.menuOf());
        x.menu();
        due("none", 0, x.menuOf());
    }

    /** "(pairs of bytes .. 1 to 8 of them) .. NONE: not as told" */
    static void p30_oneTo8Pairs() {
        LastSeat x = new LastSeat();
        for (int bytes = 0; bytes <= 20; bytes++) {
            boolean good = bytes % 2 == 0 && bytes >= 2 && bytes <= 16;
            due(bytes + " bytes", good ? 1023 - 3 : NONE, proud(x, times("\u0001\u0000", 10).substring(0, bytes)));
        }
        due("a full tape", NONE, proud(x, times("\u0001", 940)));
    }

    /** "1 he sat, 0 not": nothing else. */
    static void p30_satOrNot() {
        LastSeat x = new LastSeat();
        due("0", 1022, proud(x, "\u0000\u0000"));
        due("1", 1, proud(x, "\u0000\u0001"));
        for (int sat = 2; sat < 256; sat++) {
            due("" + sat, NONE, proud(sat % 60 == 0 ? x = new LastSeat() : x, "\u0000" + (char) sat));
        }
        due("in the last of eight", NONE, proud(new LastSeat(), times("\u0001\u0001", 7) + "\u0001\u0002"));
    }

    /** "numbers 0 to 9 that his PRIDE can be" */
    static void p30_numbers0To9() {
        LastSeat x = new LastSeat();
        for (int tired = 0; tired <= 12; tired++) {
            int upTo = (1 << Math.min(tired, 9) + 1) - 1;
            due("sat at " + tired, upTo, proud(x, (char) tired + "\u0001"));
            due("not at " + tired, 1023 - upTo, proud(x, (char) tired + "\u0000"));
        }
        due("sat at 99", 1023, proud(x, "c\u0001"));
        due("not at 99", 0, proud(x, "c\u0000"));
        due("sat at 255", 1023, proud(x, "\u00ff\u0001"));
        due("not at 255", 0, proud(x, "\u00ff\u0000"));
    }

    /** All pairs hold together; none may be left. */
    static void p30_allPairsTogether() {
        LastSeat x = new LastSeat();
        due("not at 3, sat at 4: 4", 16, proud(x, "\u0003\u0000\u0004\u0001"));
        due("not at 4, sat at 4", 0, proud(x, "\u0004\u0000\u0004\u0001"));
        due("the other way round", 0, proud(x, "\u0004\u0001\u0004\u0000"));
        due("not at 5, sat at 4", 0, proud(x, "\u0005\u0000\u0004\u0001"));
        due("the eighth, too", 32, proud(x, times("\u0009\u0001", 6) + "\u0004\u0000\u0005\u0001"));
    }

    private static void watchOf(String tape, int prides, int watch) {
        LastSeat x = new LastSeat();
        due("proud()", prides, proud(x, tape));
        due("watch()", watch, x.watch());
    }

    /** "how TIRED (0 to 9) he should be .. (of like ones the least)" */
    static void p31_ofLikeOnesTheLeast() {
        watchOf("\u0009\u0001", 1023, 4);
        watchOf("\u0008\u0001", 511, 3);
        watchOf("\u0000\u0000", 1022, 4);
        watchOf("\u0000\u0001", 1, 0);
        watchOf("\u0008\u0000", 512, 0);
        watchOf("\u0001\u0001", 3, 0);
        watchOf("\u0007\u0000", 768, 8);
        watchOf("\u0006\u0000", 896, 7);
        watchOf("\u0003\u0000\u0004\u0001", 16, 0);
        watchOf("\u0003\u0000\u0007\u0001", 240, 5);
    }

    /** "by the latest proud() above 0; NONE ahead of any" */
    static void p31_theLatestAbove0() {
        LastSeat x = new LastSeat();
        due("ahead of any", NONE, x.watch());
        due("none is left", 0, proud(x, "\u0009\u0000"));
        due("0 is none", NONE, x.watch());
        due("not as told", NONE, proud(x, "\u0009"));
        due("a NONE is none", NONE, x.watch());
        proud(x, "\u0007\u0000");
        due("8 or 9", 8, x.watch());
        proud(x, "\u0009\u0000");
        due("0 leaves it", 8, x.watch());
        proud(x, "\u0001\u0001\u0001\u0002");
        due("a NONE leaves it, though its first pair was as told", 8, x.watch());
        hall(x, TWO);
        due("a new HALL leaves it", 8, x.watch());
        proud(x, "\u0000\u0001");
        due("0", 0, x.watch());
    }

    /** "NoSuchElementException: there are no GUESTS, no such ones." */
    static void p32_noSuchOnes() {
        LastSeat x = hall(THREE);
        for (int i : FAR) due("mean(" + i + ")", THROWN, meanOr(x, i));
        due("mean(2)", THROWN, meanOr(x, 2));
        due("without GUESTS", THROWN, meanOr(new LastSeat(), 0));
        due("without GUESTS", THROWN, meanOr(new LastSeat(), 1));
        due("without GUESTS", THROWN, meanOr(new LastSeat(), 2));
        x.sit(0);
        String before = stateOf(x);
        meanOr(x, 2);
        same("what throws changes nothing", before, stateOf(x));
        due("and is no act", 0, x.undo());
    }

    /** "in least terms": nothing was paid. */
    static void p32_nothingWasPaid() {
        for (int n = 1; n <= 7; n++) {
            LastSeat x = hall("chairs 9;" + guests(n, 9, 0));
            due("0 above", 0, meanOr(x, 0));
            due("1 below", 1, meanOr(x, 1));
        }
    }

    /** "0 above, 1 below, in least terms": what was paid by each number of GUESTS. */
    static void p32_inLeastTerms() {
        for (int n = 2; n <= 7; n++) {
            for (int cost : new int[] {1, 2, 3, 4, 5, 6, 7, 8, 12, 14, 21, 60, 84}) {
                StringBuilder text = new StringBuilder("chairs 9;dish x " + cost + ";");
                for (int g = 0; g < n; g++) text.append("guest ").append((char) ('a' + g)).append(" 999 9 0 ").append(g).append(';');
                LastSeat x = hall(text.toString());
                x.serve(0);
                for (int g = 1; g < n; g++) x.sit(g);
                int above = meanOr(x, 0);
                int below = meanOr(x, 1);
                due(cost + " by " + n, 0, (long) above * n - (long) below * cost);
                for (int d = 2; d <= 7; d++) due("in least terms", false, above % d == 0 && below % d == 0);
                due("below", true, below >= 1 && below <= n);
            }
        }
    }

    /** "what was paid in all": not what is owed. */
    static void p32_whatIsOwedIsNotPaid() {
        LastSeat x = hall(POOR);
        x.serve(0);
        x.sit(0);
        due("b owes 1", 1, x.guest(1, 7));
        due("1 was paid", 1, meanOr(x, 0));
        due("by 2", 2, meanOr(x, 1));
    }

    public static void main(String[] args) throws Exception {
        runAll(ReckonEdgeTest.class);
    }
}
