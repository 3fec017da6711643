/** Boundary cases of what would go on: promises 16 to 23. */
public final class SeerEdgeTest extends Ask {
    private static final int[] FAR = {Integer.MIN_VALUE, -2, -1, 7, 8, 9, 31, 32, 33, 64, Integer.MAX_VALUE};
    /** a sits every third ROUND, and b is HOST. */
    private static final String EVERY_THIRD = "chairs 4;guest a 1 3 0 0;guest b 1 9 0 0;";
    /** Only CHAIRS 0 and 3 are ever a's: with both hidden b sits first. */
    private static final String BY_TWO = "chairs 6;guest a 9 0 3 0;guest b 9 2 1 0;";
    /** a sits at 1 in ROUND 1, b at 2 in ROUND 2, ahead of c, who would sit at 5 in ROUND 3. */
    private static final String BY_ONE = "chairs 6;guest a 9 1 1 0;guest c 9 3 0 5;guest b 9 2 1 0;";

    /** "NONE: nobody": there is no HOST among none, nor is one alone ever HOST. */
    static void p16_noneAndOneAlone() {
        due("none", NONE, new LastSeat().next());
        due("one", NONE, hall(ALONE).next());
        LastSeat x = hall(ALONE);
        x.sit(0);
        due("one who sits", NONE, x.next());
        due("two", 1, hall(TWO).next());
        due("seven: in ROUND 9 all sit but the last", 6, hall(FULL).next());
    }

    /** "nobody in 99 ROUNDS" */
    static void p16_nobodyIn99Rounds() {
        LastSeat x = hall("chairs 4;guest a 1 0 0 0;guest b 1 0 0 0;");
        x.hide(0);
        due("both stay where they can't sit", NONE, x.next());
        LastSeat y = hall("chairs 4;guest a 1 0 2 0;guest b 1 0 2 2;");
        y.hide(0);
        y.hide(2);
        due("both go round where they can't sit", NONE, y.next());
        LastSeat z = hall("chairs 5;guest a 0 0 0 0;guest b 0 0 0 0;guest c 0 0 0 0;");
        due("only one of three can sit", NONE, z.next());
        due("nextIn()", NONE, z.nextIn());
    }

    /** As late as one can be HOST: weary in ROUND 9, then seven CHAIRS further. */
    static void p16_lateOnes() {
        LastSeat x = hall("chairs 9;guest a 0 9 1 0;guest b 0 9 1 0;");
        for (int c = 0; c < 7; c++) due("hide(" + c + ")", 0, x.hide(c));
        due("next()", 1, x.next());
        due("nextIn()", 16, x.nextIn());
        due("rounds(15)", 15, x.rounds(15));
        due("not yet", 0, x.now(4));
        x.rounds(1);
        due("b is HOST", 1, x.now(6));
    }

    /** "or by ROUND 400": in it is by it. */
    static void p16_byRound400() {
        LastSeat x = hall(EVERY_THIRD);
        allRounds(x, 397);
        due("a is TIRED", 1, x.guest(0, 5));
        due("ROUND 399", 1, x.next());
        due("in", 2, x.nextIn());
        due("a new FEAST", 0, x.sit(0));
        due("ROUND 400", 1, x.next());
        due("in", 3, x.nextIn());
        x.undo();
        x.rounds(1);
        due("a new FEAST in ROUND 398", 0, x.sit(0));
        due("that would be ROUND 401", NONE, x.next());
        due("a NONE leaves nextIn()", 3, x.nextIn());
        x.undo();
        x.rounds(2);
        due("ROUND 400", 400, x.now(0));
        due("none is left", NONE, x.next());
        LastSeat y = hall(TWO);
        allRounds(y, 399);
        due("in the last ROUND", true, y.next() != NONE);
        due("in", 1, y.nextIn());
    }

    /** "if nothing else is done": by asking nothing is. */
    static void p16_allStays() {
        LastSeat x = hall(THREE);
        x.serve(0);
        x.feed(1, 2, 3, 4, 5);
        String before = stateOf(x);
        x.next();
        x.linger(1);
        x.trick(1);
        x.push(1);
        x.safe(1);
        same("all stays", before, stateOf(x));
        due("the tape, too", 20, x.count(3));
        due("no act but one", 0, x.undo());
    }

    /** "In how many ROUNDS (1 and on)" */
    static void p17_oneAndOn() {
        LastSeat x = hall(EVERY_THIRD);
        for (int k = 3; k >= 1; k--) {
            due("next()", 1, x.next());
            due("nextIn()", k, x.nextIn());
            x.rounds(1);
        }
        due("the FEAST is over", 1, x.now(4));
        due("nextIn() is what it was", 1, x.nextIn());
        x.next();
        due("of the next FEAST", 3, x.nextIn());
    }

    /** "by the latest next() that was not NONE; NONE ahead of any" */
    static void p17_onlyByNext() {
        LastSeat x = hall(TWO);
        x.trick(1);
        x.push(1);
        x.safe(1);
        x.linger(1);
        due("ahead of any", NONE, x.nextIn());
        hall(x, ALONE);
        x.next();
        due("a NONE is none", NONE, x.nextIn());
        hall(x, EVERY_THIRD);
        x.next();
        hall(x, ALONE);
        x.next();
        due("a NONE leaves it", 3, x.nextIn());
    }

    /** "NONE: he sits, .. no such one" */
    static void p18_noSuchOne() {
        LastSeat x = hall(THREE);
        for (int g : FAR) due("linger(" + g + ")", NONE, x.linger(g));
        due("linger(3)", NONE, x.linger(3));
        x.sit(2);
        due("he sits", NONE, x.linger(2));
    }

    /** "the most ROUNDS (0 to 20)" */
    static void p18_0To20() {
        LastSeat x = hall(ALONE);
        due("20", 20, x.linger(0));
        x.hide(1);
        due("where he is then is hidden: 19", 19, x.linger(0));
        x.hide(4);
        due("there, too: 18", 18, x.linger(0));
        x.hide(2);
        due("there, too: 17", 17, x.linger(0));
        x.hide(3);
        due("CHAIR 0 alone is left", 17, x.linger(0));
        LastSeat y = hall("chairs 2;guest a 0 0 0 1;");
        due("he stays, and would sit long since", 20, y.linger(0));
    }

    /** "so that the FEAST is not over": 0, if it is in the next ROUND. */
    static void p18_theFeastIsNotOver() {
        LastSeat x = hall(TWO);
        due("a: b sits in ROUND 1", 0, x.linger(0));
        due("b: a sits in ROUND 1", 0, x.linger(1));
        for (int pride = 1; pride <= 9; pride++) {
            LastSeat y = hall("chairs 4;guest a 0 1 0 0;guest b 0 " + pride + " 0 1;");
            due("b sits in ROUND " + pride, pride - 1, y.linger(0));
        }
    }

    /** "he can not at any of these" */
    static void p18_heCanNot() {
        LastSeat x = hall(TWO);
        x.hide(0);
        due("the FEAST is over ahead of any", NONE, x.linger(0));
        LastSeat y = hall("chairs 4;guest a 0 0 0 1;guest b 0 9 0 1;guest c 0 9 0 1;");
        due("now he can, but a sits there in ROUND 1", 0, y.linger(1));
        y.rounds(1);
        due("a sits there", NONE, y.linger(1));
        y.rise(0);
        y.hide(1);
        due("it is hidden", NONE, y.linger(1));
    }

    /** "so that .. he can SIT then": if a CHAIR was taken meanwhile, he can't. */
    static void p18_aChairIsTakenMeanwhile() {
        LastSeat x = hall("chairs 5;guest a 0 9 0 0;guest b 0 3 0 0;guest c 0 9 1 1;");
        due("b sits at a's CHAIR in ROUND 3", 2, x.linger(0));
    }

    /** "ROUND 400 no matter." */
    static void p18_round400() {
        LastSeat x = hall(ALONE);
        allRounds(x, 400);
        due("he sits", NONE, x.linger(0));
        x.rise(0);
        due("20 all the same", 20, x.linger(0));
        LastSeat y = hall(EVERY_THIRD);
        allRounds(y, 400);
        due("b, as a is TIRED 1", 1, y.linger(1));
    }

    /** "NONE: by none, no such one" */
    static void p19_noSuchOne() {
        LastSeat x = hall(THREE);
        for (int g : FAR) due("trick(" + g + ")", NONE, x.trick(g));
        due("trick(3)", NONE, x.trick(3));
        due("by none", NONE, x.trick(0));
        due("one alone", NONE, hall(ALONE).trick(0));
        due("tricking()", NONE, x.tricking());
    }

    /** No such one is never HOST, even where nobody is. */
    static void p19_noSuchOneWhereNobodyIsNext() {
        for (String text : new String[] {"", ALONE, "chairs 5;guest a 0 0 0 0;guest b 0 0 0 0;guest c 0 0 0 0;"}) {
            LastSeat x = hall(text);
            due("next()", NONE, x.next());
            for (int g : FAR) due("trick(" + g + ")", NONE, x.trick(g));
            due("tricking()", NONE, x.tricking());
        }
    }

    /** "the fewest CHAIRS": none, if he is NEXT. */
    static void p19_none() {
        LastSeat x = hall(TWO);
        due("b", 0, x.trick(1));
        due("tricking()", 0, x.tricking());
        LastSeat y = hall("chairs 2;guest a 9 1 1 0;guest b 9 1 1 1;");
        due("none can be hidden: b", 0, y.trick(1));
        due("none can be hidden: a", NONE, y.trick(0));
    }

    /** "each of which can be, one behind the other": as many as GUESTS must be left. */
    static void p19_eachCanBeHidden() {
        LastSeat x = hall(BY_TWO);
        due("by two", 2, x.trick(0));
        due("CHAIRS 0 and 3", 9, x.tricking());
        x.hide(4);
        x.hide(5);
        due("just two more can be", 2, x.trick(0));
        due("CHAIRS 0 and 3", 9, x.tricking());
        x.hide(1);
        due("just one more can be", NONE, x.trick(0));
        x.show(1);
        x.hide(3);
        due("besides", 1, x.trick(0));
        due("CHAIR 0 alone", 1, x.tricking());
        x.hide(0);
        due("none besides", 0, x.trick(0));
        due("none", 0, x.tricking());
    }

    /** "of like ones the least as bits" */
    static void p19_theLeastAsBits() {
        LastSeat x = hall(BY_ONE);
        due("c is NEXT", 1, x.next());
        due("b, by CHAIR 1 or 2", 1, x.trick(2));
        due("CHAIR 1", 2, x.tricking());
        x.sit(0);
        x.rise(0);
        due("all stays", 0, x.now(5));
    }

    /** "the fewest CHAIRS": one, though two would be less as bits. */
    static void p19_theFewestFirst() {
        // a sits at 0, or by 0 at 1; b sits at 2 in ROUND 3, ahead of c, unless 2 is hidden or, by 0 and 1, a sits there
        LastSeat x = hall("chairs 6;guest a 9 1 1 5;guest c 9 4 0 5;guest b 9 3 0 2;");
        due("c is NEXT", 1, x.next());
        due("b, by CHAIR 2 or by 0 and 1", 1, x.trick(2));
        due("CHAIR 2", 4, x.tricking());
    }

    /** One who sits is not HOST, whatever is hidden; one more can't be hidden where somebody sits. */
    static void p19_whoSits() {
        LastSeat x = hall(THREE);
        x.sit(2);
        due("cy", NONE, x.trick(2));
        due("ann sits at 1 in ROUND 1: bob", 0, x.trick(1));
    }

    /** "now": what another call tried ahead of it leaves no trace. */
    static void p19_behindOtherTries() {
        LastSeat x = hall(BY_ONE);
        due("a sits at 1, not by 1", 512 + 61, gone(x, 1, 1));
        due("b, by CHAIR 1 or 2", 1, x.trick(2));
        due("CHAIR 1", 2, x.tricking());
    }

    /** "NEXT .. by ROUND 400" */
    static void p19_byRound400() {
        LastSeat x = hall(TWO);
        allRounds(x, 400);
        due("a", NONE, x.trick(0));
        due("b", NONE, x.trick(1));
        LastSeat y = hall(BY_TWO);
        allRounds(y, 398);
        due("two ROUNDS are enough", true, y.trick(0) > 0);
        y.rounds(1);
        due("one is not", NONE, y.trick(0));
    }

    /** "by the latest trick() that was not NONE; NONE ahead of any" */
    static void p20_theLatestThatWasNotNone() {
        LastSeat x = hall(TWO);
        due("ahead of any", NONE, x.tricking());
        x.trick(-1);
        due("a NONE is none", NONE, x.tricking());
        x.trick(0);
        due("CHAIR 1", 2, x.tricking());
        x.trick(2);
        x.next();
        x.push(1);
        due("a NONE leaves it", 2, x.tricking());
        hall(x, ALONE);
        x.trick(0);
        due("a new HALL leaves it", 2, x.tricking());
        hall(x, TWO);
        x.trick(1);
        due("0 does not", 0, x.tricking());
    }

    /** "NONE: by none, he sits, no such one" */
    static void p21_noSuchOne() {
        LastSeat x = hall(THREE);
        for (int g : FAR) due("push(" + g + ")", NONE, x.push(g));
        due("push(3)", NONE, x.push(3));
        x.sit(2);
        due("he sits", NONE, x.push(2));
        due("one alone", NONE, hall(ALONE).push(0));
        due("pushing()", NONE, x.pushing());
    }

    /** No such one is never HOST, even where nobody is. */
    static void p21_noSuchOneWhereNobodyIsNext() {
        for (String text : new String[] {"", ALONE, "chairs 5;guest a 0 0 0 0;guest b 0 0 0 0;guest c 0 0 0 0;"}) {
            LastSeat x = hall(text);
            for (int g : FAR) due("push(" + g + ")", NONE, x.push(g));
            due("pushing()", NONE, x.pushing());
            for (int g : FAR) due("safe(" + g + ")", NONE, x.safe(g));
            for (int g : FAR) due("linger(" + g + ")", NONE, x.linger(g));
        }
    }

    /** "the fewest others": from none to all of them. */
    static void p21_noneToAll() {
        // in ROUND 9 they sit by number, so all behind him must sit now
        int[] many = {6, 5, 4, 3, 2, 1, 0};
        int[] who = {126, 124, 120, 112, 96, 64, 0};
        LastSeat x = hall(FULL);
        for (int g = 0; g < 7; g++) {
            due("push(" + g + ")", many[g], x.push(g));
            due("pushing()", who[g], x.pushing());
        }
    }

    /** "each of whom can then" */
    static void p21_eachCanSit() {
        LastSeat x = hall("chairs 4;guest a 1 9 0 0;guest b 1 9 0 0;guest c 1 0 0 1;");
        due("c: a and b can't both", NONE, x.push(2));
        due("b is NEXT", 0, x.push(1));
        due("a", 1, x.push(0));
        due("by b", 2, x.pushing());
        x.hide(0);
        due("none can at 0: a", NONE, x.push(0));
        due("none can at 0: b", NONE, x.push(1));
    }

    /** "of like ones the least as bits" */
    static void p21_theLeastAsBits() {
        LastSeat x = hall("chairs 5;guest a 1 1 0 0;guest b 1 5 1 0;guest c 1 5 1 0;");
        due("a, by b or c, who takes his CHAIR", 1, x.push(0));
        due("b", 2, x.pushing());
    }

    /** "the fewest others": one, though two would be less as bits. */
    static void p21_theFewestFirst() {
        // d comes by CHAIRS 3 and 0 alone: a and b can take both; but if c sits, a and b do in ROUND 1
        LastSeat x = hall("chairs 6;guest a 9 1 1 0;guest b 9 1 1 3;guest c 9 4 0 5;guest d 9 2 3 0;");
        due("c is NEXT", 2, x.next());
        due("d, by c or by a and b", 1, x.push(3));
        due("c", 4, x.pushing());
    }

    /** "now": what another call tried ahead of it leaves no trace. */
    static void p21_behindOtherTries() {
        LastSeat x = hall("chairs 4;guest b 0 1 0 3;guest a 0 1 0 1;guest c 0 9 0 2;");
        due("a sits alone, by 3", 8, gone(x, 1, 2));
        due("b, by all others", 2, x.push(0));
        due("a and c", 6, x.pushing());
    }

    /** "HOST of this FEAST, at once or NEXT": at ROUND 400 only at once. */
    static void p21_atOnce() {
        LastSeat x = hall(FULL);
        allRounds(x, 400);
        for (int g = 0; g < 7; g++) {
            due("push(" + g + ")", 6, x.push(g));
            due("pushing()", 127 & ~(1 << g), x.pushing());
        }
        x.sit(0);
        due("one of them sits", 5, x.push(6));
        due("the others", 62, x.pushing());
    }

    /** "by the latest push() that was not NONE; NONE ahead of any" */
    static void p22_theLatestThatWasNotNone() {
        LastSeat x = hall(TWO);
        due("ahead of any", NONE, x.pushing());
        x.push(-1);
        due("a NONE is none", NONE, x.pushing());
        x.push(0);
        due("b", 2, x.pushing());
        x.push(2);
        x.trick(1);
        due("a NONE leaves it", 2, x.pushing());
        hall(x, ALONE);
        x.push(0);
        due("a new HALL leaves it", 2, x.pushing());
        hall(x, TWO);
        x.push(1);
        due("0 does not", 0, x.pushing());
    }

    /** "NONE: he sits, no such one" */
    static void p23_noSuchOne() {
        LastSeat x = hall(THREE);
        for (int g : FAR) due("safe(" + g + ")", NONE, x.safe(g));
        due("safe(3)", NONE, x.safe(3));
        x.sit(2);
        due("he sits", NONE, x.safe(2));
    }

    /** No CHAIR and all of them, the last one, too. */
    static void p23_noneAndAll() {
        due("b is NEXT anywhere", 0, hall(TWO).safe(1));
        due("a is NEXT nowhere", 7, hall(TWO).safe(0));
        due("nine CHAIRS", 511, hall("chairs 9;guest a 0 0 0 0;").safe(0));
        due("two CHAIRS", 3, hall("chairs 2;guest a 0 0 0 0;").safe(0));
    }

    /** "CHAIRS at which he could stand now (hidden ones, too)" */
    static void p23_hiddenOnesToo() {
        LastSeat x = hall(TWO);
        x.hide(2);
        due("from 2 he goes to 0 and sits", 7, x.safe(0));
        LastSeat y = hall("chairs 4;guest a 0 1 0 0;guest b 0 2 0 1;");
        y.hide(3);
        due("at 3, which is hidden, he can't sit", 7, y.safe(0));
    }

    /** At the CHAIR of one who sits he can stand, but not sit. */
    static void p23_whereSomebodySits() {
        LastSeat x = hall("chairs 3;guest a 9 1 0 0;guest b 9 3 0 1;guest c 9 9 0 2;");
        x.sit(2);
        due("at 2 he can't sit", 3, x.safe(0));
        due("all stays", 0, x.guest(0, 3));
        LastSeat y = hall("chairs 3;guest a 9 1 1 0;guest b 9 3 0 1;guest c 9 9 0 2;");
        y.sit(2);
        due("from 2 he goes on to 0", 7, y.safe(0));
        LastSeat z = hall("chairs 3;guest c 9 9 0 2;guest b 9 3 0 1;guest a 9 1 0 0;");
        z.sit(0);
        due("the last GUEST likewise", 3, z.safe(2));
    }

    /** "NEXT .. by ROUND 400": nobody is, then. */
    static void p23_byRound400() {
        LastSeat x = hall(TWO);
        allRounds(x, 400);
        due("a", 7, x.safe(0));
        due("b", 7, x.safe(1));
    }

    public static void main(String[] args) throws Exception {
        runAll(SeerEdgeTest.class);
    }
}
