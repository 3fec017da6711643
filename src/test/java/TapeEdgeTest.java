/** Boundary cases of the tape and of a new object: promises 1 to 3 and 43. */
public final class TapeEdgeTest extends Ask {
    /** "A HALL of 6 CHAIRS without GUESTS" */
    static void p01_sixChairsWithoutGuests() {
        LastSeat x = new LastSeat();
        due("CHAIRS", 6, x.count(0));
        due("GUESTS", 0, x.count(1));
        due("DISHES", 0, x.count(2));
        for (int c = 0; c < 6; c++) due("CHAIR " + c + " is shown", 0, x.chair(c, 0));
        due("no CHAIR 6", NONE, x.chair(6, 0));
        due("no GUEST", THROWN, guestOr(x, 0, 0));
        due("nobody can sit", NONE, x.sit(0));
        due("nobody can rise", NONE, x.rise(0));
        due("no DISH", NONE, x.serve(0));
        for (int i = 0; i < 8; i++) due("now(" + i + ")", i == 6 ? NONE : 0, x.now(i));
    }

    /** "an empty tape" */
    static void p01_anEmptyTape() {
        LastSeat x = new LastSeat();
        due("bytes", 0, x.count(3));
        due("not one", false, x.end(1));
        due("a HALL of no LINES", 0, x.hall());
        due("a BOOK of no LINES", NONE, new LastSeat().book(1));
        due("no SENTENCE", -1, new LastSeat().sentence());
        due("not two bytes", NONE, new LastSeat().gone());
        due("no pairs", NONE, new LastSeat().proud());
    }

    /** "NONE ahead of any", of each call that tells what another one found. */
    static void p01_nothingWasToldYet() {
        LastSeat x = new LastSeat();
        due("fault()", 0, x.fault());
        due("nextIn()", NONE, x.nextIn());
        due("tricking()", NONE, x.tricking());
        due("pushing()", NONE, x.pushing());
        due("hostAt(0)", NONE, x.hostAt(0));
        due("menuOf()", NONE, x.menuOf());
        due("watch()", NONE, x.watch());
        due("byteAt(0)", NONE, x.byteAt(0));
        for (int i = 0; i < 4; i++) due("told(" + i + ")", NONE, x.told(i));
        due("said(NONE)", NONE, x.said(NONE));
        due("said(0)", NONE, x.said(0));
        due("undo()", NONE, x.undo());
        due("restore(0)", false, x.restore(0));
        due("restore(1)", false, x.restore(1));
    }

    static void p01_objectsShareNothing() {
        LastSeat x = hall(THREE);
        x.feed(1, 2, 3, 4, 5);
        x.image(0);
        x.plate(0);
        x.next();
        LastSeat y = new LastSeat();
        due("GUESTS", 0, y.count(1));
        due("the tape", 0, y.count(3));
        due("an image", false, y.restore(0));
        due("the PLATE", NONE, y.byteAt(0));
        due("nextIn()", NONE, y.nextIn());
    }

    /** "NONE, and none come, if it would have more than 940": 940 are not more. */
    static void p02_940BytesAreAllThereMayBe() {
        LastSeat x = new LastSeat();
        for (int i = 1; i <= 47; i++) due("feed " + i, 20 * i, x.feed(i, i, i, i, i));
        due("none come", NONE, x.feed(1, 1, 1, 1, 1));
        due("940 stay", 940, x.count(3));
        due("none come again", NONE, x.feed(1, 1, 1, 1, 1));
        due("behind an end", true, x.end(920));
        due("twenty come again", 940, x.feed(1, 1, 1, 1, 1));
    }

    /** "if it would have more than 940": one byte more. */
    static void p02_941BytesAreTooMany() {
        LastSeat x = new LastSeat();
        Check.tape(x, "seated" + blanks(915));
        due("bytes", 921, x.count(3));
        due("941", NONE, x.feed(0x6e6f7420, 0x6e6f7420, 0x6e6f7420, 0x6e6f7420, 0x6e6f7420));
        due("not even one came", 921, x.count(3));
        x.end(6);
        due("the bytes ahead are as they were", 1, x.sentence());
    }

    /** "of each number the highest first" */
    static void p02_theHighestByteFirst() {
        LastSeat x = hall(THREE);
        // "number<7 or number>8": every one of the twenty bytes matters
        due("feed", 20, x.feed(0x6e756d62, 0x65723c37, 0x206f7220, 0x6e756d62, 0x65723e38));
        due("sentence()", 2, x.sentence());
        due("it is said of all", 3, x.said(NONE));
    }

    /** Bytes go from 0 to 255, in numbers below 0, too. */
    static void p02_bytesAbove127() {
        LastSeat x = new LastSeat();
        due("feed", 20, x.feed(-1, -1, -1, -1, -1));
        due("no TOKEN", -1, x.hall());
        // 255, 1: so TIRED he sits, however proud he is; -1 would say he never does
        x.feed(0xff010000, 0, 0, 0, 0);
        x.end(2);
        due("proud()", 1023, x.proud());
        x.feed(Integer.MIN_VALUE, Integer.MAX_VALUE, 0, 0, 0);
        x.end(8);
        due("proud() of 128 0 0 0 127 255 ..", NONE, x.proud());
    }

    /** "Twenty bytes come behind the tape" */
    static void p02_behindWhatIsThere() {
        LastSeat x = hall(THREE);
        Check.tape(x, "not");
        due("feed", 23, x.feed(0x206e756d, 0x6265723c, 0x31202020, 0x20202020, 0x20202020));
        due("not number<1", 2, x.sentence());
        due("of two", 2, x.said(NONE));
    }

    /** "The tape has its first n bytes alone: true" from none to all. */
    static void p03_noneToAll() {
        LastSeat x = new LastSeat();
        due("none of none", true, x.end(0));
        x.feed(0, 0, 0, 0, 0);
        for (int n = 20; n >= 0; n--) {
            due("end(" + n + ")", true, x.end(n));
            due("bytes", n, x.count(3));
        }
        for (int i = 0; i < 47; i++) x.feed(0, 0, 0, 0, 0);
        due("all of a full tape", true, x.end(940));
        due("bytes", 940, x.count(3));
    }

    /** "false, if it has not so many" */
    static void p03_notSoMany() {
        LastSeat x = new LastSeat();
        due("1 of none", false, x.end(1));
        x.feed(0, 0, 0, 0, 0);
        due("21 of 20", false, x.end(21));
        due("940 of 20", false, x.end(940));
        due("the most there is", false, x.end(Integer.MAX_VALUE));
        due("all stays", 20, x.count(3));
        x.end(7);
        due("8 of 7: what was cut is gone", false, x.end(8));
        for (int i = 0; i < 46; i++) x.feed(0, 0, 0, 0, 0);
        due("941", false, x.end(941));
    }

    /** "or n is below 0" */
    static void p03_below0() {
        LastSeat x = new LastSeat();
        due("-1 of none", false, x.end(-1));
        x.feed(0, 0, 0, 0, 0);
        due("-1", false, x.end(-1));
        due("the least there is", false, x.end(Integer.MIN_VALUE));
        due("all stays", 20, x.count(3));
    }

    /** "its first n bytes alone": what comes next stands right behind them. */
    static void p03_whatIsCutIsGone() {
        LastSeat x = hall(THREE);
        Check.tape(x, "number<1 or weary");
        x.end(8);
        x.feed(0x206f7220, 0x6e756d62, 0x65723e31, 0x20202020, 0x20202020);
        due("number<1 or number>1", 2, x.sentence());
        due("of two", 2, x.said(NONE));
    }

    private static void fed(LastSeat x, String text, int n) {
        Check.tape(x, text);
        due("end(" + n + ")", true, x.end(n));
    }

    /** "its first n bytes alone": a WORD or NUMBER does not go on into what was cut. */
    static void p03_cutWithinAToken() {
        LastSeat x = hall(THREE);
        fed(x, "seatedseatedseated", 6);
        due("seated", 1, x.sentence());
        fed(x, "seated7", 6);
        due("seated", 1, x.sentence());
        fed(x, "number < 2999", 10);
        due("number < 2", 1, x.sentence());
        due("of two", 2, x.said(NONE));
        fed(x, "by annabel", 6);
        due("by ann", 1, x.sentence());
        fed(x, "seated or weary", 8);
        due("the end is at 8: 'o' can't come at 7", -8, x.sentence());
        fed(x, "chairs 3;dish", 9);
        due("chairs 3;", 1, x.hall());
        fed(x, "chairs 3", 6);
        due("the end at 6", -7, x.hall());
        fed(x, "dish dishes 1", 11);
        due("the end at 11", -12, x.hall());
        fed(x, "round 60;round", 9);
        due("round 60;", NONE, x.book(0));
        fed(x, "round 60", 7);
        due("the end at 7", -9, x.book(0));
        fed(x, "\u0001\u0000\u0000", 2);
        due("two bytes", 512 + 7, x.gone());
        fed(x, "\u0000\u0001\u0001", 2);
        due("a pair", 1, x.proud());
    }

    /** The same at the very end of a full tape, and of a shorter one behind a longer one. */
    static void p03_aLongerTapeAheadOfAShorterOne() {
        LastSeat x = hall(THREE);
        Check.tape(x, times("a", 940));
        due("a WORD of 940 letters", -1, x.sentence());
        Check.tape(x, "weary");
        due("weary", 1, x.sentence());
        Check.tape(x, times("9", 940));
        due("a NUMBER of 940 digits", -1, x.hall());
        fed(x, "chairs 9;9999", 8);
        due("the end at 8", -9, x.hall());
    }

    /** "NONE for another what" */
    static void p43_anotherWhat() {
        LastSeat x = hall(THREE);
        for (int i : new int[] {-1, 4, 5, Integer.MIN_VALUE, Integer.MAX_VALUE}) due("count(" + i + ")", NONE, x.count(i));
    }

    /** The most and the least of each sort. */
    static void p43_mostAndLeast() {
        LastSeat x = hall(FULL);
        due("nine CHAIRS", 9, x.count(0));
        due("seven GUESTS", 7, x.count(1));
        due("six DISHES", 6, x.count(2));
        hall(x, "chairs 2;");
        due("two CHAIRS", 2, x.count(0));
        due("no GUESTS", 0, x.count(1));
        due("no DISHES", 0, x.count(2));
        for (int i = 0; i < 47; i++) x.feed(0, 0, 0, 0, 0);
        due("a full tape", 940, x.count(3));
    }

    /** "3 bytes of the tape": "(empty then, here and below)" */
    static void p43_theTapeIsEmptyBehindItsReaders() {
        LastSeat x = hall(THREE);
        String[] texts = {THREE, "chairs 1;", "seated", "ann sits;", "\u0001\u0000", "\u0001\u0001", "?"};
        for (String text : texts) {
            Check.tape(x, text);
            x.sentence();
            due("behind sentence() of " + text, 0, x.count(3));
            Check.tape(x, text);
            x.book(0);
            due("behind book() of " + text, 0, x.count(3));
            Check.tape(x, text);
            x.gone();
            due("behind gone() of " + text, 0, x.count(3));
            Check.tape(x, text);
            x.proud();
            due("behind proud() of " + text, 0, x.count(3));
            Check.tape(x, text);
            x.hall();
            due("behind hall() of " + text, 0, x.count(3));
        }
    }

    public static void main(String[] args) throws Exception {
        runAll(TapeEdgeTest.class);
    }
}
