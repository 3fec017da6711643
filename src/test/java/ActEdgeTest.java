import java.util.ArrayList;
import java.util.List;

/** Boundary cases of what can be seen and done in a HALL: promises 6 to 15. */
public final class ActEdgeTest extends Ask {
    private static final int[] FAR = {Integer.MIN_VALUE, -100, -2, -1, 9, 10, 31, 32, 33, 64, 1000, Integer.MAX_VALUE};

    /** An act that is refused: its answer, and that nothing changes by it. */
    private static void refused(LastSeat x, String before, String call, int want, int got) {
        due(call, want, got);
        same("all stays behind " + call, before, stateOf(x));
    }

    /** "NoSuchElementException: no such ones." */
    static void p06_noSuchGuest() {
        LastSeat x = hall(THREE);
        for (int g : FAR) due("guest(" + g + ", 0)", THROWN, guestOr(x, g, 0));
        due("guest(3, 0)", THROWN, guestOr(x, 3, 0));
        due("guest(2, 0)", 100, guestOr(x, 2, 0));
        due("guest(7, 0)", THROWN, guestOr(hall(FULL), 7, 0));
        due("guest(6, 3)", 6, guestOr(hall(FULL), 6, 3));
        for (int i = 0; i < 10; i++) due("without GUESTS", THROWN, guestOr(new LastSeat(), 0, i));
    }

    static void p06_noSuchWhat() {
        LastSeat x = hall(THREE);
        for (int i : FAR) if (i != 9) due("guest(0, " + i + ")", THROWN, guestOr(x, 0, i));
        due("guest(0, 9)", 0, guestOr(x, 0, 9));
        due("neither", THROWN, guestOr(x, 3, 10));
    }

    /** "A call that throws changes nothing." */
    static void p06_whatThrowsChangesNothing() {
        LastSeat x = hall(THREE);
        x.sit(0);
        x.feed(1, 2, 3, 4, 5);
        String before = stateOf(x);
        guestOr(x, 3, 0);
        guestOr(x, 0, 10);
        same("all stays", before, stateOf(x));
        due("the tape stays", 20, x.count(3));
        due("it is no act", 0, x.undo());
    }

    /** "9 who pays for him": himself, if nobody else does. */
    static void p06_whoPaysForHim() {
        LastSeat x = hall(THREE);
        due("ann", 0, x.guest(0, 9));
        due("bob", 2, x.guest(1, 9));
        due("cy", 2, x.guest(2, 9));
    }

    /** "5 how TIRED": each by himself, from the first to the last. */
    static void p06_eachByHimself() {
        LastSeat x = hall(FULL);
        x.sit(0);
        x.rounds(1);
        x.sit(6);
        x.rounds(1);
        int[] tired = {0, 2, 2, 2, 2, 2, 1};
        for (int g = 0; g < 7; g++) {
            due("TIRED " + g, tired[g], x.guest(g, 5));
            due("he sits " + g, g == 0 || g == 6 ? 1 : 0, x.guest(g, 4));
            due("CHAIR " + g, g, x.guest(g, 3));
        }
    }

    /** "NONE, too: no such ones." */
    static void p07_noSuchOnes() {
        LastSeat x = hall(THREE);
        for (int c : FAR) for (int i = 0; i < 3; i++) due("chair(" + c + ", " + i + ")", NONE, x.chair(c, i));
        for (int i = 0; i < 3; i++) due("chair(4, " + i + ")", NONE, x.chair(4, i));
        for (int i : FAR) due("chair(0, " + i + ")", NONE, x.chair(0, i));
        due("chair(0, 3)", NONE, x.chair(0, 3));
        due("the last CHAIR", 0, x.chair(3, 0));
        LastSeat y = hall("chairs 9;");
        due("CHAIR 8", 0, y.chair(8, 0));
        due("CHAIR 9", NONE, y.chair(9, 0));
        LastSeat z = hall("chairs 2;");
        due("CHAIR 1", 0, z.chair(1, 0));
        due("CHAIR 2", NONE, z.chair(2, 0));
    }

    /** "1 who sits there (NONE), 2 GUESTS who are at it, as bits": nobody, one, all seven. */
    static void p07_nobodyAndAll() {
        StringBuilder all = new StringBuilder("chairs 7;");
        for (char c = 'a'; c < 'h'; c++) all.append("guest ").append(c).append(" 0 9 0 6;");
        LastSeat x = hall(all.toString());
        due("all are at 6", 127, x.chair(6, 2));
        due("nobody is at 0", 0, x.chair(0, 2));
        due("nobody sits at 6", NONE, x.chair(6, 1));
        x.sit(6);
        due("the last one sits", 6, x.chair(6, 1));
        due("nobody sits at 0", NONE, x.chair(0, 1));
        due("all are there still", 127, x.chair(6, 2));
        x.rise(6);
        due("nobody sits", NONE, x.chair(6, 1));
    }

    /** Each GUEST at a CHAIR of his own; none that is not there is at any. */
    static void p07_eachAtHisOwn() {
        LastSeat x = hall(FULL);
        x.sit(4);
        x.sit(6);
        for (int c = 0; c < 9; c++) {
            due("who is at " + c, c < 7 ? 1 << c : 0, x.chair(c, 2));
            due("who sits at " + c, c == 4 || c == 6 ? c : NONE, x.chair(c, 1));
        }
        LastSeat y = hall("chairs 9;guest a 0 9 0 3;");
        for (int c = 0; c < 9; c++) due("who is at " + c, c == 3 ? 1 : 0, y.chair(c, 2));
        due("without GUESTS", 0, new LastSeat().chair(0, 2));
    }

    /** "0 hidden (1, 0)" */
    static void p07_hidden() {
        LastSeat x = hall("chairs 9;");
        x.hide(8);
        for (int c = 0; c < 9; c++) due("CHAIR " + c, c == 8 ? 1 : 0, x.chair(c, 0));
    }

    /** "NONE for another what." */
    static void p08_anotherWhat() {
        LastSeat x = hall(THREE);
        for (int i : FAR) due("now(" + i + ")", NONE, x.now(i));
        due("now(8)", NONE, x.now(8));
    }

    /** "6 the latest HOST (NONE ahead of any)" */
    static void p08_theLatestHost() {
        LastSeat x = hall(TWO);
        due("ahead of any", NONE, x.now(6));
        x.sit(1);
        due("a", 0, x.now(6));
        x.sit(0);
        due("b", 1, x.now(6));
        due("FEASTS", 2, x.now(4));
        x.undo();
        x.undo();
        due("undone", NONE, x.now(6));
    }

    /** Nothing and all, as bits. */
    static void p08_noneAndAll() {
        LastSeat x = hall(FULL);
        for (int i = 0; i < 8; i++) due("now(" + i + ")", i == 6 ? NONE : 0, x.now(i));
        for (int d = 0; d < 6; d++) x.serve(d);
        due("all DISHES", 63, x.now(2));
        due("what they cost", 594, x.now(3));
        for (int g = 2; g < 7; g++) x.sit(g);
        due("all but two sit", 124, x.now(1));
        LastSeat y = hall("chairs 9;");
        for (int c = 0; c < 9; c++) y.hide(c);
        due("all CHAIRS", 511, y.now(5));
    }

    /** "NONE: no such one" */
    static void p09_noSuchOne() {
        LastSeat x = hall(THREE);
        String before = stateOf(x);
        for (int g : FAR) refused(x, before, "sit(" + g + ")", NONE, x.sit(g));
        refused(x, before, "sit(3)", NONE, x.sit(3));
        due("nothing was done", NONE, x.undo());
        due("the last one", 0, x.sit(2));
        due("the seventh", 0, hall(FULL).sit(6));
        due("no eighth", NONE, hall(FULL).sit(7));
    }

    /** "1 he sits": not 2, though somebody, himself, sits at his CHAIR. */
    static void p09_heSits() {
        LastSeat x = hall(THREE);
        x.sit(0);
        refused(x, stateOf(x), "sit(0)", 1, x.sit(0));
        due("one act", 0, x.undo());
    }

    /** "2 somebody sits at his CHAIR" */
    static void p09_somebodySitsAtHisChair() {
        LastSeat x = hall(THREE);
        x.sit(1);
        refused(x, stateOf(x), "sit(0)", 2, x.sit(0));
        x.rise(1);
        due("one who stands there does not matter", 0, x.sit(0));
        due("the other way round", 2, x.sit(1));
    }

    /** "3 it is hidden" */
    static void p09_itIsHidden() {
        LastSeat x = hall(THREE);
        x.hide(2);
        refused(x, stateOf(x), "sit(2)", 3, x.sit(2));
        due("another one is not", 0, x.sit(0));
        x.show(2);
        due("sit(2)", 0, x.sit(2));
    }

    /** "If just one GUEST stands then": nobody is left, if one is alone. */
    static void p09_oneAloneIsNoHost() {
        LastSeat x = hall(ALONE);
        x.serve(0);
        due("sit(0)", 0, x.sit(0));
        due("he sits", 1, x.now(1));
        due("no FEAST is over", 0, x.now(4));
        due("the DISH stays", 1, x.now(2));
        due("rise(0)", 0, x.rise(0));
        due("one stands, but nobody sat down", 0, x.now(4));
        x.rounds(60);
        due("nor by ROUNDS", 0, x.now(4));
    }

    /** "If just one GUEST stands then": two are too many. */
    static void p09_twoWhoStandAreTooMany() {
        LastSeat x = hall(FULL);
        for (int g = 0; g < 5; g++) due("sit(" + g + ")", 0, x.sit(g));
        due("f and g stand", 31, x.now(1));
        due("no FEAST is over", 0, x.now(4));
        due("sit(6)", 0, x.sit(6));
        due("f is HOST", 5, x.now(6));
        due("it is over", 1, x.now(4));
        due("all rise", 0, x.now(1));
        LastSeat y = hall(TWO);
        due("of two", 0, y.sit(0));
        due("the other one", 1, y.now(6));
    }

    /** "as far as he has coins": all of them, one too few, none. */
    static void p09_asFarAsHeHasCoins() {
        for (int coins = 0; coins <= 14; coins++) {
            LastSeat x = hall("chairs 2;guest a 0 9 0 0;guest b " + coins + " 9 0 1;dish x 5;dish y 7;");
            x.serve(0);
            x.serve(1);
            x.sit(0);
            due("left of " + coins, Math.max(0, coins - 12), x.guest(1, 0));
            due("paid of " + coins, Math.min(12, coins), x.guest(1, 8));
            due("owed behind " + coins, Math.max(0, 12 - coins), x.guest(1, 7));
            due("paid in all", Math.min(12, coins), x.now(7));
            due("a has nothing to do with it", 0, x.guest(0, 7) + x.guest(0, 8));
        }
    }

    /** "what all DISHES that were SERVED cost": nothing, if there were none; all six of them. */
    static void p09_whatWasServed() {
        LastSeat x = hall(TWO);
        x.sit(0);
        due("HOST all the same", 1, x.guest(1, 6));
        due("coins stay", 9, x.guest(1, 0));
        due("nothing is owed", 0, x.guest(1, 7));
        LastSeat y = hall("chairs 2;guest a 0 9 0 0;guest b 999 9 0 1;" + dishes(6, 99));
        for (int d = 0; d < 6; d++) y.serve(d);
        y.sit(0);
        due("all six", 999 - 594, y.guest(1, 0));
        due("paid", 594, y.guest(1, 8));
    }

    /** "who pays for him pays .. the rest he OWES": that one, not the HOST, and nobody for that one. */
    static void p09_whoPaysForHimPays() {
        LastSeat x = hall("chairs 3;guest a 100 9 0 0;guest b 3 9 0 1;guest c 50 9 0 2;dish x 5;pays a b;pays b c;");
        x.serve(0);
        x.sit(0);
        x.sit(1);
        due("c is HOST", 2, x.now(6));
        due("b paid what he had", 0, x.guest(1, 0));
        due("b owes", 2, x.guest(1, 7));
        due("c has his coins", 50, x.guest(2, 0));
        due("c owes nothing", 0, x.guest(2, 7));
        due("a, who pays for b, does not pay here", 100, x.guest(0, 0));
        due("c was HOST", 1, x.guest(2, 6));
        due("b was not", 0, x.guest(1, 6));
    }

    /** LINES of FEASTS in which DISHES for so much are SERVED: m to q for 99 each, r for 98. */
    private static List<String> feastsFor(int much) {
        int by98 = (99 - much % 99) % 99;
        int by99 = (much + by98) / 99 - by98;
        List<String> lines = new ArrayList<>();
        while (by99 > 0 || by98 > 0) {
            for (char dish = 'm'; dish <= 'q' && by99 > 0; dish++, by99--) lines.add("serve " + dish + ";");
            if (by98-- > 0) lines.add("serve r;");
            lines.add("a sits;");
        }
        return lines;
    }

    /** Lives LINES in as few calls as there can be: forty a BOOK, filled up so that no end() is due; how many calls. */
    private static int live(LastSeat x, List<String> lines) {
        int calls = 0;
        for (int from = 0; from < lines.size(); from += 40) {
            String text = String.join("", lines.subList(from, Math.min(from + 40, lines.size())));
            int[] n = Check.numbers(text + blanks(19 - (text.length() + 19) % 20));
            for (int i = 0; i < n.length; i += 5, calls++) x.feed(n[i], n[i + 1], n[i + 2], n[i + 3], n[i + 4]);
            due("a BOOK of FEASTS", NONE, x.book(1));
            calls++;
        }
        return calls;
    }

    /** "OWES (99999 at most)", within the 512 calls that an object is used for. */
    static void p09_owes99999AtMost() {
        LastSeat x = hall("chairs 2;guest a 0 0 0 0;guest b 0 9 0 1;" + dishes(5, 99) + "dish r 98;pays a b;");
        for (int i = 0; i < 7; i++) x.drawn(60, i);
        int calls = 20 + live(x, feastsFor(99998 - x.guest(0, 7)));
        due("99998", 99998, x.guest(0, 7));
        same("on the PLATE", "a stands at 0 owes 99998", plate(x, 0));
        x.serve(5);
        x.sit(0);
        due("not 100096", 99999, x.guest(0, 7));
        x.serve(0);
        x.sit(0);
        due("and no more", 99999, x.guest(0, 7));
        due("nothing was paid", 0, x.now(7));
        due("the calls so far, " + calls + ", and what is asked here", true, calls + 40 <= 512);
        same("on the PLATE", "a stands at 0 owes 99999", plate(x, 0));
    }

    /** "All rise where they are, nobody is TIRED, nothing is SERVED any more" */
    static void p09_behindAFeast() {
        LastSeat x = hall(THREE);
        x.serve(0);
        x.hide(3);
        x.rounds(2);
        due("ann sits at 1", 0, x.chair(1, 1));
        due("bob, at 2", 0, x.sit(1));
        due("cy is HOST", 2, x.now(6));
        due("all rise", 0, x.now(1));
        int[] at = {1, 2, 2};
        for (int g = 0; g < 3; g++) due("where they are", at[g], x.guest(g, 3));
        for (int g = 0; g < 3; g++) due("nobody is TIRED", 0, x.guest(g, 5));
        due("nothing is SERVED", 0, x.now(2) + x.now(3));
        due("what is hidden stays so", 8, x.now(5));
        due("it is the same ROUND", 2, x.now(0));
        due("a DISH can be SERVED anew", 0, x.serve(0));
        due("and one can sit where one sat", 0, x.sit(0));
    }

    static void p10_noSuchOne() {
        LastSeat x = hall(THREE);
        String before = stateOf(x);
        for (int g : FAR) refused(x, before, "rise(" + g + ")", NONE, x.rise(g));
        refused(x, before, "rise(3)", NONE, x.rise(3));
        due("nothing was done", NONE, x.undo());
    }

    /** "To RISE: 1 he does not sit" */
    static void p10_heDoesNotSit() {
        LastSeat x = hall(FULL);
        for (int g = 0; g < 7; g++) refused(x, stateOf(x), "rise(" + g + ")", 1, x.rise(g));
        x.sit(6);
        due("rise(6)", 0, x.rise(6));
        refused(x, stateOf(x), "rise(6)", 1, x.rise(6));
        for (int g = 0; g < 6; g++) x.sit(g);
        due("behind a FEAST nobody sits", 1, x.rise(0));
    }

    /** "he stands": where he is, as TIRED as he was; his CHAIR is free. */
    static void p10_heStands() {
        LastSeat x = hall(THREE);
        x.rounds(2);
        due("ann sits", 1, x.now(1));
        due("rise(0)", 0, x.rise(0));
        due("nobody sits", 0, x.now(1));
        due("CHAIR 1", 1, x.guest(0, 3));
        due("TIRED", 1, x.guest(0, 5));
        due("hide(1)", 0, x.hide(1));
        LastSeat y = hall(FULL);
        y.sit(0);
        y.sit(6);
        due("rise(6)", 0, y.rise(6));
        due("CHAIR 0 is not free", 3, y.hide(0));
        due("CHAIR 6 is", 0, y.hide(6));
    }

    static void p11_noSuchOne() {
        LastSeat x = hall(THREE);
        String before = stateOf(x);
        for (int d : FAR) refused(x, before, "serve(" + d + ")", NONE, x.serve(d));
        refused(x, before, "serve(2)", NONE, x.serve(2));
        due("nothing was done", NONE, x.undo());
        due("no seventh", NONE, hall(FULL).serve(6));
        due("without DISHES", NONE, hall(guests(2, 1, 1)).serve(0));
    }

    /** "To SERVE a DISH: 1 it is SERVED" */
    static void p11_itIsServed() {
        LastSeat x = hall(FULL);
        for (int d = 0; d < 6; d++) {
            due("serve(" + d + ")", 0, x.serve(d));
            refused(x, stateOf(x), "serve(" + d + ")", 1, x.serve(d));
        }
        due("six acts", 5, x.undo());
        due("the last one can be", 0, x.serve(5));
    }

    /** "NONE: not 0 to 8" */
    static void p12_not0To8() {
        LastSeat x = hall(THREE);
        String before = stateOf(x);
        for (int c : FAR) refused(x, before, "hide(" + c + ")", NONE, x.hide(c));
        due("hide(8)", 1, x.hide(8));
        due("hide(0)", 0, x.hide(0));
    }

    /** "1 there is none of that number" */
    static void p12_thereIsNone() {
        for (int n = 2; n <= 9; n++) {
            LastSeat x = hall("chairs " + n + ";");
            for (int c = n; c <= 8; c++) refused(x, stateOf(x), "hide(" + c + ") of " + n, 1, x.hide(c));
            due("the last one", 0, x.hide(n - 1));
        }
        due("none is ahead of too few", 1, hall("chairs 2;" + guests(2, 9, 0)).hide(2));
    }

    /** "2 it is hidden" */
    static void p12_itIsHidden() {
        LastSeat x = hall("chairs 3;" + guests(2, 9, 0));
        x.hide(2);
        refused(x, stateOf(x), "hide(2)", 2, x.hide(2));
        due("that is ahead of too few", 4, x.hide(0));
    }

    /** "3 somebody sits there" */
    static void p12_somebodySitsThere() {
        LastSeat x = hall("chairs 5;" + guests(3, 9, 0));
        x.sit(1);
        refused(x, stateOf(x), "hide(1)", 3, x.hide(1));
        due("somebody stands there", 0, x.hide(0));
        due("one more", 0, x.hide(2));
        refused(x, stateOf(x), "hide(1)", 3, x.hide(1));
        due("that is ahead of too few", 4, x.hide(3));
    }

    /** "4 fewer would be left than there are GUESTS": as many may be left. */
    static void p12_fewerThanGuests() {
        for (int chairs = 2; chairs <= 9; chairs++) {
            for (int guests = 0; guests <= Math.min(7, chairs); guests++) {
                LastSeat x = hall("chairs " + chairs + ";" + guests(guests, 9, 0));
                for (int c = 0; c < chairs; c++) {
                    due("hide(" + c + ") of " + chairs + " for " + guests, c < chairs - guests ? 0 : 4, x.hide(c));
                }
                due("hidden", (1 << chairs - guests) - 1, x.now(5));
            }
        }
    }

    /** "NONE: not 0 to 8" */
    static void p13_not0To8() {
        LastSeat x = hall("chairs 9;");
        for (int c = 0; c < 9; c++) x.hide(c);
        String before = stateOf(x);
        for (int c : FAR) refused(x, before, "show(" + c + ")", NONE, x.show(c));
        due("show(8)", 0, x.show(8));
        due("show(0)", 0, x.show(0));
        due("the others are hidden", 254, x.now(5));
    }

    /** "1 there is none" */
    static void p13_thereIsNone() {
        for (int n = 2; n <= 9; n++) {
            LastSeat x = hall("chairs " + n + ";");
            for (int c = n; c <= 8; c++) refused(x, stateOf(x), "show(" + c + ") of " + n, 1, x.show(c));
            due("the last one", 2, x.show(n - 1));
        }
    }

    /** "2 it is not hidden" */
    static void p13_itIsNotHidden() {
        LastSeat x = hall(THREE);
        for (int c = 0; c < 4; c++) refused(x, stateOf(x), "show(" + c + ")", 2, x.show(c));
        x.hide(1);
        due("show(1)", 0, x.show(1));
        refused(x, stateOf(x), "show(1)", 2, x.show(1));
        due("it can be hidden again", 0, x.hide(1));
    }

    /** "n (1 to 60) .. NONE: not as told" */
    static void p14_oneTo60() {
        LastSeat x = hall(THREE);
        String before = stateOf(x);
        for (int n : new int[] {Integer.MIN_VALUE, -60, -1, 0, 61, 62, 400, Integer.MAX_VALUE}) {
            refused(x, before, "rounds(" + n + ")", NONE, x.rounds(n));
        }
        due("nothing was done", NONE, x.undo());
        due("rounds(1)", 1, x.rounds(1));
        due("rounds(60)", 60, x.rounds(60));
        due("the ROUND", 61, x.now(0));
    }

    /** "A ROUND (0 to 399; 400: all are over)" */
    static void p14_all400() {
        LastSeat x = hall(THREE);
        for (int i = 0; i < 6; i++) due("rounds(60)", 60, x.rounds(60));
        due("ROUND 360", 360, x.now(0));
        due("rounds(39)", 39, x.rounds(39));
        due("ROUND 399", 399, x.now(0));
        due("one is left", 1, x.rounds(60));
        due("ROUND 400", 400, x.now(0));
        refused(x, stateOf(x), "none is left", 0, x.rounds(60));
        refused(x, stateOf(x), "none is left", 0, x.rounds(1));
        due("61 are not as told all the same", NONE, x.rounds(61));
        due("acts still go", 0, x.serve(0));
        LastSeat y = hall(THREE);
        for (int i = 0; i < 6; i++) y.rounds(60);
        due("40 of 60", 40, y.rounds(60));
    }

    /** "he goes SPEED CHAIRS on (all round, hidden ones, too)" */
    static void p14_allRound() {
        for (int chairs = 2; chairs <= 9; chairs++) {
            for (int speed = 0; speed <= 9; speed++) {
                LastSeat x = hall("chairs " + chairs + ";guest a 0 9 " + speed + " " + (chairs - 1) + ";");
                x.hide(0);
                int at = chairs - 1;
                for (int k = 0; k < 3; k++) {
                    for (int s = 0; s < speed; s++) at = at == chairs - 1 ? 0 : at + 1;
                    x.rounds(1);
                    due("by " + speed + " of " + chairs, at, x.guest(0, 3));
                }
            }
        }
    }

    /** "is 1 more TIRED (99 at most)" */
    static void p14_tired99AtMost() {
        LastSeat x = hall("chairs 2;guest a 0 0 0 0;");
        x.hide(0);
        x.rounds(1);
        due("1", 1, x.guest(0, 5));
        x.rounds(60);
        x.rounds(37);
        due("98", 98, x.guest(0, 5));
        x.rounds(1);
        due("99", 99, x.guest(0, 5));
        x.rounds(1);
        due("not 100", 99, x.guest(0, 5));
        x.rounds(60);
        due("99 still", 99, x.guest(0, 5));
        due("the ROUND goes on", 160, x.now(0));
    }

    /** "SITS, if he can and is as TIRED as his PRIDE, or more" */
    static void p14_asTiredAsHisPride() {
        for (int pride = 0; pride <= 9; pride++) {
            LastSeat x = hall("chairs 2;guest a 0 " + pride + " 1 0;");
            int first = Math.max(1, pride);
            for (int k = 1; k <= 10; k++) {
                x.rounds(1);
                due("PRIDE " + pride + " in ROUND " + k, k >= first ? 1 : 0, x.guest(0, 4));
                due("who sits grows no more TIRED", Math.min(k, first), x.guest(0, 5));
                due("and goes no further", Math.min(k, first) % 2, x.guest(0, 3));
            }
        }
    }

    /** "if he can": not where it is hidden or somebody sits; "or more": a ROUND later, then. */
    static void p14_sitsWhenHeCan() {
        LastSeat x = hall("chairs 4;guest a 0 1 1 0;");
        x.hide(1);
        x.rounds(1);
        due("CHAIR 1 is hidden", 0, x.guest(0, 4));
        x.rounds(1);
        due("he sits at 2", 1, x.guest(0, 4));
        LastSeat y = hall("chairs 4;guest a 0 9 0 1;guest b 0 1 1 0;guest c 0 9 0 0;");
        y.sit(0);
        y.rounds(1);
        due("somebody sits at 1", 1, y.now(1));
        y.rounds(1);
        due("b sat at 2: c is HOST", 2, y.now(6));
    }

    /** "if a FEAST is over by that, the others do not go any more" */
    static void p14_theOthersDoNotGo() {
        LastSeat x = hall("chairs 5;guest a 0 9 1 0;guest b 0 1 0 3;guest c 0 9 0 4;");
        x.sit(2);
        x.rounds(1);
        due("a, ahead of b, is HOST", 0, x.now(6));
        due("a went", 1, x.guest(0, 3));
        due("but is not TIRED", 0, x.guest(0, 5));
        LastSeat y = hall("chairs 5;guest a 0 9 0 4;guest b 0 1 0 3;guest c 0 9 1 0;");
        y.sit(0);
        y.rounds(1);
        due("c, behind b, is HOST", 2, y.now(6));
        due("c did not go", 0, y.guest(2, 3));
        due("it is the next ROUND", 1, y.now(0));
        y.rounds(1);
        due("a goes in it", 1, y.guest(0, 5));
    }

    private static void nineActs(LastSeat x) {
        for (int i = 0; i < 9; i++) due("act " + i, 0, i % 2 == 0 ? x.hide(3) : x.show(3));
    }

    /** "how many more can be (8 at most are kept)" */
    static void p15_eightAtMost() {
        LastSeat x = hall(THREE);
        x.serve(0);
        for (int i = 0; i < 8; i++) due("act " + i, 0, i % 2 == 0 ? x.sit(0) : x.rise(0));
        for (int i = 7; i >= 0; i--) {
            due("undo()", i, x.undo());
            due("ann sits", i % 2, x.now(1));
        }
        due("none is", NONE, x.undo());
        due("the ninth stays done", 1, x.now(2));
    }

    /** The places of what is kept come round. */
    static void p15_moreThanEight() {
        LastSeat x = hall(THREE);
        nineActs(x);
        for (int i = 7; i >= 5; i--) due("undo()", i, x.undo());
        due("the sixth act stays done", 0, x.now(5));
        due("one", 0, x.serve(0));
        due("two", 0, x.serve(1));
        for (int i = 6; i >= 5; i--) due("undo()", i, x.undo());
        due("nothing is SERVED", 0, x.now(2));
        for (int i = 4; i >= 0; i--) {
            due("undo()", i, x.undo());
            due("CHAIR 3", i % 2 == 0 ? 8 : 0, x.now(5));
        }
        due("none is", NONE, x.undo());
        nineActs(hall(THREE));
    }

    /** "NONE: none is": nothing changes then. */
    static void p15_none() {
        LastSeat x = hall(THREE);
        x.serve(0);
        x.undo();
        refused(x, stateOf(x), "undo()", NONE, x.undo());
        refused(x, stateOf(x), "undo()", NONE, x.undo());
        due("an act then", 0, x.serve(0));
        due("can be undone", 0, x.undo());
    }

    /** "that was done": what is refused is no act. */
    static void p15_whatIsRefused() {
        LastSeat x = hall(THREE);
        x.hide(3);
        x.sit(0);
        x.serve(0);
        String before = stateOf(x);
        refused(x, before, "sit(0)", 1, x.sit(0));
        refused(x, before, "sit(1)", 2, x.sit(1));
        refused(x, before, "rise(1)", 1, x.rise(1));
        refused(x, before, "serve(0)", 1, x.serve(0));
        refused(x, before, "hide(3)", 2, x.hide(3));
        refused(x, before, "show(0)", 2, x.show(0));
        refused(x, before, "rounds(0)", NONE, x.rounds(0));
        refused(x, before, "drawn(0, 1)", NONE, x.drawn(0, 1));
        due("undo()", 2, x.undo());
        due("the DISH is not SERVED", 0, x.now(2));
    }

    /** "rounds() above 0, drawn() above 0" */
    static void p15_roundsOfNone() {
        LastSeat x = hall(THREE);
        allRounds(x, 360);
        due("rounds(60)", 40, x.rounds(60));
        due("rounds(60)", 0, x.rounds(60));
        due("drawn(60, 1)", 0, x.drawn(60, 1));
        due("seven acts", 6, x.undo());
        due("ROUND 360", 360, x.now(0));
        due("drawn(60, 1)", 40, x.drawn(60, 1));
        due("seven acts", 6, x.undo());
        due("ROUND 360", 360, x.now(0));
        due("five more", 5, x.undo());
        due("ROUND 300", 300, x.now(0));
    }

    /** "a BOOK of which some LINE was lived" */
    static void p15_books() {
        LastSeat x = hall(THREE);
        due("an empty one", NONE, book(x, "", 1));
        due("none is", NONE, x.undo());
        due("its first LINE is WRONG", 0, book(x, "ann rises;serve ale;", 1));
        due("none is", NONE, x.undo());
        due("judged alone", NONE, book(x, "serve ale;", 0));
        due("none is", NONE, x.undo());
        due("a FAULT", -2 - 10, book(x, "serve ale;!", 1));
        due("none is", NONE, x.undo());
        due("one LINE lived", 1, book(x, "serve ale;ann rises;", 1));
        due("one act", 0, x.undo());
        due("ale is not SERVED", 0, x.now(2));
        due("many LINES lived", NONE, book(x, "serve ale;ann sits;hide 3;round 60;", 1));
        due("one act", 0, x.undo());
        same("all is as it was", stateOf(hall(THREE)), stateOf(x));
    }

    /** Each sort of act is undone whole, with what came of it. */
    static void p15_eachSort() {
        LastSeat x = hall(POOR);
        x.serve(0);
        x.rounds(3);
        String before = stateOf(x);
        due("sit(0)", 0, x.sit(0));
        due("b owes", 1, x.guest(1, 7));
        due("undo()", 2, x.undo());
        same("a FEAST that was over is not", before, stateOf(x));
        x.drawn(20, 5);
        due("undo()", 2, x.undo());
        same("ROUNDS DRAWN", before, stateOf(x));
        x.rounds(9);
        due("undo()", 2, x.undo());
        same("ROUNDS", before, stateOf(x));
        due("a CHAIR, where one sat, is free", 0, x.sit(0));
        LastSeat y = hall(THREE);
        y.sit(0);
        y.rise(0);
        y.undo();
        due("he sits again: his CHAIR is not free", 2, y.sit(1));
        due("nor can it be hidden", 3, y.hide(0));
        y.undo();
        due("now it can", 0, y.hide(0));
    }

    /** Of the last GUEST there may be all is undone and restored, too. */
    static void p15_theSeventhGuest() {
        LastSeat x = hall("chairs 9;" + guests(6, 9, 1) + "guest g 30 9 2 8;" + dishes(6, 9));
        x.rounds(3);
        x.image(0);
        for (int d = 0; d < 6; d++) x.serve(d);
        String before = stateOf(x);
        due("g is TIRED", 3, x.guest(6, 5));
        due("a BOOK", NONE, book(x, "a sits;b sits;c sits;d sits;e sits;f sits;", 1));
        String feast = stateOf(x);
        int[] want = {0, 9, 2, 5, 0, 0, 1, 24, 30, 6};
        for (int i = 0; i < 10; i++) due("guest(6, " + i + ")", want[i], x.guest(6, i));
        x.image(1);
        due("undo()", 7, x.undo());
        same("undone", before, stateOf(x));
        x.restore(1);
        same("restored", feast, stateOf(x));
        x.restore(0);
        due("30 coins", 30, x.guest(6, 0));
        due("TIRED", 3, x.guest(6, 5));
        for (int i = 6; i < 9; i++) due("guest(6, " + i + ")", 0, x.guest(6, i));
        x.rounds(1);
        due("a CHAIR of its own SPEED", 7, x.guest(6, 3));
    }

    /** What calls told last, the SENTENCE and the tape are no acts. */
    static void p15_whatIsNoAct() {
        LastSeat x = hall(THREE);
        x.serve(0);
        sentence(x, "number = 2");
        x.next();
        x.plate(2);
        x.hosts(40);
        x.menu();
        x.feed(1, 2, 3, 4, 5);
        due("undo()", 0, x.undo());
        due("said()", 2, x.said(0));
        due("nextIn()", 3, x.nextIn());
        due("byteAt()", 'c', x.byteAt(0));
        due("hostAt()", 1, x.hostAt(0));
        due("menuOf()", 3, x.menuOf());
        due("the tape", 20, x.count(3));
    }

    /** What is of a HALL that is no more can't be undone; a FAULT leaves all. */
    static void p15_behindAHall() {
        LastSeat x = hall(THREE);
        x.serve(0);
        x.serve(1);
        hall(x, "chairs 1;");
        due("behind a FAULT", 1, x.undo());
        hall(x, THREE);
        due("behind a new HALL", NONE, x.undo());
    }

    public static void main(String[] args) throws Exception {
        runAll(ActEdgeTest.class);
    }
}
