/** Boundary cases of BOOKS: promises 37 and 38. */
public final class BookEdgeTest extends Ask {
    /** In ROUND 1 ann, who is not proud, sits at 1; bob stays at ann's first CHAIR, cy at 2. */
    private static final String HALL = "chairs 4;guest ann 50 1 1 0;guest bob 20 9 0 0;guest cy 100 9 0 2;dish soup 30;";

    /** "-1000: another lives (the tape stays)": and all else. */
    static void p37_anotherLives() {
        LastSeat x = hall(THREE);
        x.serve(0);
        Check.tape(x, "ann sits;");
        String before = stateOf(x);
        for (int lives : new int[] {Integer.MIN_VALUE, -1000, -2, -1, 2, 3, Integer.MAX_VALUE}) {
            due("book(" + lives + ")", -1000, x.book(lives));
            same("all stays", before, stateOf(x));
        }
        due("the tape stays", 9, x.count(3));
        due("nothing was told", NONE, x.told(0));
        due("book(1)", NONE, x.book(1));
        due("it was whole", 1, x.now(1));
        due("two acts", 1, x.undo());
    }

    /** "it is judged, all staying as it is (lives 0)" */
    static void p37_judged() {
        LastSeat x = hall(THREE);
        x.serve(0);
        String before = stateOf(x);
        due("none is WRONG", NONE, book(x, "serve ale;hide 3;ann sits;round 60;", 0));
        same("all stays", before, stateOf(x));
        due("one is", 2, book(x, "serve ale;hide 3;serve ale;", 0));
        same("all stays", before, stateOf(x));
        due("no act but one", 0, x.undo());
    }

    /** "or lived as far as it is not WRONG (1)" */
    static void p37_lived() {
        LastSeat x = hall(THREE);
        due("the first is WRONG", 0, book(x, "ann rises;serve ale;", 1));
        same("nothing was lived", stateOf(hall(THREE)), stateOf(x));
        due("the last is WRONG", 2, book(x, "serve ale;hide 3;serve ale;", 1));
        due("ale", 2, x.now(2));
        due("CHAIR 3", 8, x.now(5));
        due("LINES behind a WRONG one are not lived", 1, book(x, "serve soup;serve soup;show 3;", 1));
        due("soup and ale", 3, x.now(2));
        due("CHAIR 3", 8, x.now(5));
    }

    /** "as far as it is not WRONG": a WRONG LINE itself changes nothing. */
    static void p37_aWrongLineChangesNothing() {
        String[][] all = {{"serve ale;", "hide 4;"}, {"serve ale;", "hide 8;"}, {"ann sits;", "hide 0;"}, {"hide 3;", "hide 1;"},
            {"hide 3;", "hide 3;"}, {"serve ale;", "show 8;"}, {"serve ale;", "show 1;"}, {"ann sits;", "bob rises;"},
            {"ann sits;", "bob sits;"}, {"ann sits;", "ann sits;"}, {"hide 2;", "cy sits;"}, {"serve ale;", "serve ale;"}};
        for (String[] lines : all) {
            LastSeat x = hall(THREE);
            LastSeat y = hall(THREE);
            due(lines[0] + lines[1], 1, book(x, lines[0] + lines[1], 1));
            due(lines[0], NONE, book(y, lines[0], 1));
            same("as if it was not there", stateOf(y), stateOf(x));
            for (int g = 0; g < 3; g++) due("sit(" + g + ")", y.sit(g), x.sit(g));
        }
    }

    /** "{ LINE ; }": none is a BOOK, too. */
    static void p37_noLines() {
        LastSeat x = hall(THREE);
        for (int lives = 0; lives <= 1; lives++) {
            due("empty", NONE, book(x, "", lives));
            due("blanks", NONE, book(x, " \n ", lives));
            due("400 blanks", NONE, book(x, blanks(400), lives));
        }
        due("told(1)", 0, x.told(1));
        due("no act", NONE, x.undo());
    }

    /** "the LINE that is WRONG", from 0; "40 at most" */
    static void p37_40Lines() {
        LastSeat x = hall(THREE);
        String pair = "hide 3;show 3;";
        due("40 LINES", NONE, book(x, times(pair, 20), 1));
        due("told(1)", 40, x.told(1));
        due("one act", 0, x.undo());
        due("the last of 40", 39, book(x, times(pair, 19) + "hide 3;hide 3;", 0));
        due("the first of 40", 0, book(x, times("show 3;", 40), 0));
        badBook(times(pair, 20) + "hide 3;", 280, 4);
        badBook(times(pair, 20) + " \nann sits;", 282, 4);
        badBook(times("show 3;", 41), 280, 4);
    }

    /** "of one TOKEN the least": a 41st LINE's first WORD. */
    static void p37_theFirstWordOfA41stLine() {
        String forty = times("show 3;", 40);
        badBook(forty + "ann", 280, 4);
        badBook(forty + "serve !", 280, 4);
        badBook(forty + "round 0;", 280, 4);
        badBook(forty + "eve", 280, 3);
        badBook(forty + "soup", 280, 3);
        badBook(forty + "sits", 280, 1);
        badBook(forty + "chairs", 280, 1);
        badBook(forty + ";", 280, 1);
        badBook(forty + "7", 280, 1);
        badBook(forty + "!", 280, 1);
    }

    /** "a text of at most 400 bytes" */
    static void p37_400Bytes() {
        LastSeat x = hall(THREE);
        due("400", NONE, book(x, "hide 3" + blanks(393) + ";", 0));
        badBook("hide 3" + blanks(394) + ";", 400, 1);
        badBook(blanks(401), 400, 1);
        badBook("hide 3;" + blanks(394), 400, 1);
        badBook("hide 3;" + blanks(933), 400, 1);
        due("ahead", NONE, book(x, blanks(393) + "hide 3;", 0));
        badBook(blanks(394) + "hide 3;", 400, 1);
        badBook(blanks(396) + "hide", 400, 1);
    }

    /** "no FAULT is ahead: TOKENS that begin ahead of it are read whole" */
    static void p37_tokensThatBeginAheadOf400() {
        badBook(blanks(393) + "round 60;", 400, 1);
        badBook(blanks(393) + "round 61;", 399, 2);
        badBook(blanks(394) + "hide 10;", 399, 2);
        badBook(blanks(395) + "hide 10;", 400, 1);
        badBook(blanks(399) + "ann sits;", 400, 1);
        badBook(blanks(399) + "anna sits;", 399, 3);
        badBook(blanks(399) + "annannan sits;", 399, 1);
        badBook(blanks(400) + "!", 400, 1);
        badBook(blanks(399) + "!  ", 399, 1);
        badBook(times("show 3;", 40) + blanks(119) + "show 3;", 399, 4);
        badBook(times("show 3;", 40) + blanks(120) + "show 3;", 400, 1);
    }

    private static void range(String word, int low, int high) {
        for (int n = 0; n <= 999; n++) {
            String text = word + " " + n + ";";
            LastSeat x = hall(THREE);
            boolean good = n >= low && n <= high;
            due("a FAULT of " + text, good ? 0 : 2, book(x, text, 0) < NONE ? x.fault() : 0);
            if (!good && n % 100 < 12) badBook(text, word.length() + 1, 2);
        }
        badBook(word + " 1000;", word.length() + 1, 1);
    }

    /** "'hide' N | 'show' N (a CHAIR: 0 to 8)" */
    static void p37_chairs0To8() {
        range("hide", 0, 8);
        range("show", 0, 8);
    }

    /** "'round' N (1 to 60)" */
    static void p37_rounds1To60() {
        range("round", 1, 60);
    }

    /** FAULTS of NAMES: "not told, or of another sort" */
    static void p37_names() {
        badBook("eve sits;", 0, 3);
        badBook("soup sits;", 0, 3);
        badBook("an sits;", 0, 3);
        badBook("serve eve;", 6, 3);
        badBook("serve ann;", 6, 3);
        badBook("serve sits;", 6, 1);
        badBook("ann ann;", 4, 1);
        badBook("ann;", 3, 1);
        badBook("ann seated;", 4, 1);
        LastSeat x = new LastSeat();
        due("without GUESTS", -2, book(x, "ann sits;", 0));
        due("3", 3, x.fault());
        due("without DISHES", -8, book(x, "serve soup;", 0));
        due("3", 3, x.fault());
        hall(x, THREE);
        due("a NAME of the HALL now", NONE, book(x, "ann sits;", 0));
        hall(x, TWO);
        due("no more", -2, book(x, "ann sits;", 0));
    }

    /** "one that can't come": a LINE cut short at each place. */
    static void p37_aLineCutShort() {
        badBook("ann;", 3, 1);
        badBook("serve;", 5, 1);
        badBook("hide;", 4, 1);
        badBook("show;", 4, 1);
        badBook("round;", 5, 1);
        badBook("hide ;round 1;", 5, 1);
    }

    /** "-2 less the place of a FAULT": in the first byte, at the end. */
    static void p37_places() {
        badBook("!", 0, 1);
        badBook("ann", 3, 1);
        badBook("ann sits", 8, 1);
        badBook("ann sits \n", 10, 1);
        badBook("hide", 4, 1);
        badBook("ann sits;;", 9, 1);
        badBook("hide 3 3;", 7, 1);
        badBook("ann sits;bob rises;serve", 24, 1);
        badBook("round 3;round 0;round 0;", 14, 2);
    }

    private static void toldOf(String text, int why, int lines, int round, int sits) {
        LastSeat x = hall(HALL);
        due("book() of " + text, why == 0 ? NONE : lines, book(x, text, 0));
        int[] want = {why, lines, round, sits};
        for (int i = 0; i < 4; i++) due("told(" + i + ") of " + text, want[i], x.told(i));
    }

    /** "NONE: another what, or ahead of any" */
    static void p38_anotherWhat() {
        LastSeat x = hall(HALL);
        for (int i = -1; i < 5; i++) due("ahead of any", NONE, x.told(i));
        book(x, "!", 0);
        x.book(2);
        for (int i = -1; i < 5; i++) due("a FAULT or -1000 is none", NONE, x.told(i));
        book(x, "hide 3;", 0);
        for (int i : new int[] {Integer.MIN_VALUE, -1, 4, 5, Integer.MAX_VALUE}) due("told(" + i + ")", NONE, x.told(i));
        due("told(3)", 0, x.told(3));
    }

    /** "Of the latest book() that had no FAULT (and was not -1000)" */
    static void p38_theLatest() {
        LastSeat x = hall(HALL);
        book(x, "round 2;ann rises;bob rises;", 0);
        int[] want = {11, 2, 2, 0};
        book(x, "hide 9;", 0);
        x.book(-1);
        hall(x, "");
        for (int i = 0; i < 4; i++) due("told(" + i + ")", want[i], x.told(i));
        book(x, "", 0);
        for (int i = 0; i < 4; i++) due("told(" + i + ") of an empty one", 0, x.told(i));
    }

    /** "1 to 3 as for sitting" */
    static void p38_sitting() {
        toldOf("ann sits;ann sits;", 1, 1, 0, 1);
        toldOf("ann sits;bob sits;", 2, 1, 0, 1);
        toldOf("hide 2;cy sits;", 3, 1, 0, 0);
    }

    /** "11 rising, 21 serving" */
    static void p38_risingAndServing() {
        toldOf("ann rises;", 11, 0, 0, 0);
        toldOf("cy sits;cy rises;cy rises;", 11, 2, 0, 0);
        toldOf("serve soup;serve soup;", 21, 1, 0, 0);
        // ann and bob sit, cy is HOST: all rise, and soup can be SERVED anew
        toldOf("round 1;serve soup;bob sits;serve soup;ann rises;", 11, 4, 1, 0);
    }

    /** "31 to 34 hiding" */
    static void p38_hiding() {
        toldOf("hide 4;", 31, 0, 0, 0);
        toldOf("hide 8;", 31, 0, 0, 0);
        toldOf("hide 3;hide 3;", 32, 1, 0, 0);
        toldOf("cy sits;hide 2;", 33, 1, 0, 4);
        toldOf("hide 3;hide 1;", 34, 1, 0, 0);
        toldOf("hide 3;cy sits;hide 2;", 33, 2, 0, 4);
        toldOf("hide 3;hide 4;", 31, 1, 0, 0);
        toldOf("hide 3;hide 0;", 34, 1, 0, 0);
    }

    /** "41, 42 showing" */
    static void p38_showing() {
        toldOf("show 4;", 41, 0, 0, 0);
        toldOf("show 8;", 41, 0, 0, 0);
        toldOf("show 3;", 42, 0, 0, 0);
        toldOf("hide 3;show 3;show 3;", 42, 2, 0, 0);
    }

    /** "51: fewer ROUNDS are left": as many may be. */
    static void p38_fewerRoundsAreLeft() {
        String six = times("round 60;", 6);
        LastSeat x = hall(HALL);
        allRounds(x, 400);
        int sits400 = x.now(1);
        toldOf(six + "round 40;", 0, 7, 400, sits400);
        LastSeat y = hall(HALL);
        allRounds(y, 360);
        toldOf(six + "round 41;", 51, 6, 360, y.now(1));
        toldOf(six + "round 40;round 1;", 51, 7, 400, sits400);
        toldOf(six + "round 39;round 2;", 51, 7, 399, told399());
        toldOf(six + "round 39;round 1;", 0, 8, 400, sits400);
        due("not one of them goes by", 0, book(y, "round 41;", 1));
        due("ROUND 360", 360, y.now(0));
    }

    private static int told399() {
        LastSeat x = hall(HALL);
        allRounds(x, 399);
        return x.now(1);
    }

    /** "2 the ROUND then, 3 who sits then": behind what was lived or judged, not now. */
    static void p38_then() {
        LastSeat x = hall(HALL);
        due("judged", NONE, book(x, "cy sits;round 1;", 0));
        // in ROUND 1 ann sits, too, and bob is HOST: all rise
        due("the ROUND then", 1, x.told(2));
        due("who sits then", 0, x.told(3));
        due("the ROUND now", 0, x.now(0));
        due("lived", NONE, book(x, "ann sits;", 1));
        due("who sits then", 1, x.told(3));
        x.rise(0);
        due("then, not now", 1, x.told(3));
    }

    public static void main(String[] args) throws Exception {
        runAll(BookEdgeTest.class);
    }
}
