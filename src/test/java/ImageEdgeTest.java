/** Boundary cases of images: promises 41 and 42. */
public final class ImageEdgeTest extends Ask {
    private static final int[] FAR = {Integer.MIN_VALUE, -2, -1, 2, 3, 32, Integer.MAX_VALUE};

    /** "place k (0, 1): true; false: no such one" */
    static void p41_noSuchPlace() {
        LastSeat x = hall(THREE);
        for (int k : FAR) due("image(" + k + ")", false, x.image(k));
        due("nothing is kept", false, x.restore(0) || x.restore(1));
        due("image(0)", true, x.image(0));
        due("image(1)", true, x.image(1));
    }

    /** Both places by themselves, each kept anew. */
    static void p41_twoPlaces() {
        LastSeat x = hall(THREE);
        x.image(0);
        String first = stateOf(x);
        x.rounds(2);
        x.image(1);
        String second = stateOf(x);
        x.rounds(5);
        String third = stateOf(x);
        x.restore(0);
        same("place 0", first, stateOf(x));
        x.restore(1);
        same("place 1", second, stateOf(x));
        x.rounds(5);
        x.image(0);
        x.restore(1);
        x.restore(0);
        same("place 0 anew", third, stateOf(x));
    }

    /** By keeping nothing changes; what is kept does not change by what comes behind. */
    static void p41_allStays() {
        LastSeat x = hall(POOR);
        x.serve(0);
        sentence(x, "ruined");
        x.feed(1, 2, 3, 4, 5);
        String before = stateOf(x);
        x.image(0);
        same("all stays", before, stateOf(x));
        due("the tape stays", 20, x.count(3));
        x.sit(0);
        due("b owes", 1, x.guest(1, 7));
        due("undo goes on behind image()", 1, x.undo());
        x.sit(0);
        sentence(x, "seated");
        hall(x, FULL);
        x.restore(0);
        same("as kept", before, stateOf(x));
    }

    /** A HALL without GUESTS, and one with all there may be, can be kept. */
    static void p41_leastAndMost() {
        LastSeat x = new LastSeat();
        x.hide(5);
        String empty = stateOf(x);
        x.image(0);
        hall(x, FULL);
        for (int d = 0; d < 6; d++) x.serve(d);
        x.hide(8);
        x.sit(6);
        sentence(x, "weary" + times(" or weary", 18) + " or number>3");
        String full = stateOf(x);
        due("of three", 3, x.said(NONE));
        x.image(1);
        x.restore(0);
        same("the empty one", empty, stateOf(x));
        due("no SENTENCE", NONE, x.said(NONE));
        x.restore(1);
        same("the full one", full, stateOf(x));
        due("g sits still: none can be hidden there", 3, x.hide(6));
    }

    /** "false: no such one, or nothing is kept there" */
    static void p42_nothingIsKept() {
        LastSeat x = hall(THREE);
        x.sit(0);
        String before = stateOf(x);
        for (int k : FAR) due("restore(" + k + ")", false, x.restore(k));
        due("restore(0)", false, x.restore(0));
        due("restore(1)", false, x.restore(1));
        x.image(1);
        due("restore(0)", false, x.restore(0));
        same("all stays", before, stateOf(x));
        due("and can be undone", 0, x.undo());
        due("restore(1)", true, x.restore(1));
        same("as kept", before, stateOf(x));
    }

    /** "nothing can be undone" */
    static void p42_nothingCanBeUndone() {
        LastSeat x = hall(THREE);
        x.sit(0);
        x.image(0);
        x.serve(0);
        due("restore(0)", true, x.restore(0));
        due("none is", NONE, x.undo());
        x.serve(1);
        due("what is done behind it can be", 0, x.undo());
        due("none is", NONE, x.undo());
        due("ann sits", 1, x.now(1));
    }

    /** "(the tape, and what other calls told last, stays" */
    static void p42_whatWasToldLastStays() {
        LastSeat x = hall(ALONE);
        x.image(0);
        hall(x, TWO);
        x.next();
        x.trick(0);
        x.push(0);
        x.hosts(9);
        x.menu();
        proud(x, "\u0007\u0000");
        x.plate(1);
        book(x, "round 1;a rises;", 0);
        sentence(x, "by x");
        x.feed(1, 2, 3, 4, 5);
        due("restore(0)", true, x.restore(0));
        due("the tape", 20, x.count(3));
        due("fault()", 3, x.fault());
        due("nextIn()", 1, x.nextIn());
        due("tricking()", 2, x.tricking());
        due("pushing()", 2, x.pushing());
        due("hostAt(1)", 1, x.hostAt(1));
        due("menuOf()", 1, x.menuOf());
        due("watch()", 8, x.watch());
        due("byteAt(0)", 'b', x.byteAt(0));
        int[] told = {11, 1, 1, 0};
        for (int i = 0; i < 4; i++) due("told(" + i + ")", told[i], x.told(i));
        due("the HALL is as kept", 1, x.count(1));
    }

    /** "They are as kept": NAMES, who pays, what DISHES cost, and a SENTENCE's NAMES, too. */
    static void p42_theHallIsAsKept() {
        LastSeat x = hall(THREE);
        sentence(x, "by bob");
        x.image(0);
        hall(x, "chairs 9;guest bob 1 2 3 8;guest ann 4 5 6 7;dish ale 1;dish pie 2;pays ann bob;");
        x.restore(0);
        same("all is as kept", "4 3 2 0 0 0 0 0 0 -1 0 |50 1 1 0 0 0 0 0 0 0 |20 3 1 0 0 0 0 0 0 2 "
                + "|100 9 0 2 0 0 0 0 0 2 |2 0 1 -1", stateOf(x));
        same("its NAMES", "ann stands at 0", plate(x, 0));
        due("its DISHES", NONE, book(x, "serve soup;serve ale;", 1));
        due("what they cost", 38, x.now(3));
        due("no other NAMES", -2 - 6, book(x, "serve pie;", 1));
        due("no other CHAIRS", 1, x.hide(4));
    }

    /** It can be restored again and again. */
    static void p42_againAndAgain() {
        LastSeat x = hall(POOR);
        x.serve(0);
        x.image(1);
        String before = stateOf(x);
        for (int i = 0; i < 5; i++) {
            x.sit(0);
            x.rounds(60);
            due("restore(1)", true, x.restore(1));
            same("as kept", before, stateOf(x));
        }
    }

    public static void main(String[] args) throws Exception {
        runAll(ImageEdgeTest.class);
    }
}
