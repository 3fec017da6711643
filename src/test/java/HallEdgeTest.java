/** Boundary cases of a HALL's text and of FAULTS: promises 4 and 5. */
public final class HallEdgeTest extends Ask {
    private static final String[] WORDS = {"chairs", "guest", "dish", "pays", "sits", "rises", "serve", "hide", "show",
        "round", "or", "and", "not", "seated", "ruined", "weary", "by", "for", "coins", "tired", "hosted", "number"};

    /** hall() of a text on a new object, and which kind of FAULT it has. */
    private static void told(String text, int answer, int kind) {
        LastSeat x = new LastSeat();
        due("hall() of " + text, answer, hall(x, text));
        due("fault() of " + text, kind, x.fault());
    }

    private static void good(String text, int lines) {
        told(text, lines, 0);
    }

    private static void bad(String text, int place, int kind) {
        told(text, -1 - place, kind);
    }

    /** A NUMBER may be low to high: text ahead + number + text behind. */
    private static void range(String ahead, String behind, int low, int high, int lines) {
        for (int n = 0; n <= 999; n++) {
            if (n >= low && n <= high) good(ahead + n + behind, lines);
            else if (n < 20 || n % 50 < 2 || n > 95 && n < 105 || n > 990) bad(ahead + n + behind, ahead.length(), 2);
        }
    }

    /** "{ LINE ; }": none is a HALL, too. */
    static void p04_noLines() {
        good("", 0);
        good(" ", 0);
        good("\n \n", 0);
        LastSeat x = hall(THREE);
        due("hall()", 0, x.hall());
        due("6 CHAIRS without", 6, x.count(0));
        due("no GUESTS", 0, x.count(1));
        due("no DISHES", 0, x.count(2));
    }

    /** "how many LINES": the most that there can be. */
    static void p04_allLinesThereMayBe() {
        String pays = "pays a b;pays b c;pays c d;pays d e;pays e f;pays f g;pays g a;";
        good(FULL + pays, 21);
        LastSeat x = hall(FULL + pays);
        for (int g = 0; g < 7; g++) due("who pays for " + g, (g + 6) % 7, x.guest(g, 9));
    }

    /** "blanks (32, 10) between them or not" */
    static void p04_blanksOrNot() {
        good("chairs 3;guest a 1 1 1 1;dish d 1;", 3);
        good(" chairs\n3\n; \nguest a\n 1 1 1  1 ;\n\ndish d 1 ; ", 3);
    }

    /** "'chairs' N (2 to 9" */
    static void p04_twoToNineChairs() {
        range("chairs ", ";", 2, 9, 1);
        for (int n = 2; n <= 9; n++) due("CHAIRS", n, hall("chairs " + n + ";").count(0));
    }

    /** "once, ahead of all GUESTS" */
    static void p04_chairsOnceAheadOfGuests() {
        bad("chairs 3;chairs 3;", 9, 3);
        bad("chairs 3;dish d 1;chairs 4;", 18, 3);
        bad("guest a 1 1 1 1;chairs 3;", 16, 3);
        bad("chairs 3;guest a 1 1 1 1;chairs 3;", 25, 3);
        bad("guest a 1 1 1 1;chairs !", 16, 3);
        good("dish d 1;chairs 3;guest a 1 1 1 2;", 3);
        good("dish d 1;dish e 1;chairs 9;", 3);
    }

    /** "6 without": the place of a GUEST goes by it, too. */
    static void p04_sixWithout() {
        LastSeat x = hall("guest a 1 1 1 5;");
        due("CHAIRS", 6, x.count(0));
        due("the last CHAIR", 5, x.guest(0, 3));
        bad("guest a 1 1 1 6;", 14, 2);
        good(guests(6, 1, 1), 6);
        bad(guests(6, 1, 1) + "guest g 1 1 1 1;", 96, 4);
    }

    /** "COINS .. (0 to 999": there is no NUMBER above. */
    static void p04_coins() {
        due("0", 0, hall("guest a 0 1 1 1;").guest(0, 0));
        due("1", 1, hall("guest a 001 1 1 1;").guest(0, 0));
        due("999", 999, hall("guest a 999 1 1 1;").guest(0, 0));
        bad("guest a 1000 1 1 1;", 8, 1);
        bad("guest a 0999 1 1 1;", 8, 1);
    }

    /** "PRIDE .. 0 to 9" */
    static void p04_pride() {
        range("guest a 1 ", " 1 1;", 0, 9, 1);
        for (int n = 0; n <= 9; n++) due("PRIDE", n, hall("guest a 1 " + n + " 1 1;").guest(0, 1));
    }

    /** "SPEED .. 0 to 9" */
    static void p04_speed() {
        range("guest a 1 1 ", " 1;", 0, 9, 1);
        for (int n = 0; n <= 9; n++) due("SPEED", n, hall("chairs 2;guest a 1 1 " + n + " 1;").guest(0, 2));
    }

    /** "CHAIR .. 0 to 'chairs' less 1" */
    static void p04_whereHeStands() {
        range("guest a 1 1 1 ", ";", 0, 5, 1);
        for (int n = 2; n <= 9; n++) range("chairs " + n + ";guest a 1 1 1 ", ";", 0, n - 1, 2);
    }

    /** "'dish' NAME N (it costs 1 to 99)" */
    static void p04_whatADishCosts() {
        range("dish d ", ";", 1, 99, 1);
        LastSeat x = hall("dish d 1;dish e 99;");
        x.serve(0);
        due("1", 1, x.now(3));
        x.serve(1);
        due("and 99", 100, x.now(3));
    }

    /** "'pays' GUEST GUEST (the first one for the second; unlike" */
    static void p04_paysUnlike() {
        bad("guest a 1 1 1 1;pays a a;", 23, 3);
        bad("guest a 1 1 1 1;guest b 1 1 1 1;pays b b;", 39, 3);
        bad("guest a 1 1 1 1;guest b 1 1 1 1;pays a b;pays b b;", 48, 3);
    }

    /** "once for each" */
    static void p04_paysOnceForEach() {
        String three = "guest a 1 1 1 1;guest b 1 1 1 1;guest c 1 1 1 1;";
        bad(three + "pays a b;pays a b;", 64, 3);
        bad(three + "pays a b;pays c b;", 64, 3);
        bad(three + "pays a b;pays b a;pays c a;", 73, 3);
        good(three + "pays a b;pays a c;", 5);
        good(three + "pays a b;pays b a;", 5);
        LastSeat x = hall(three + "pays a b;pays a c;");
        for (int g = 0; g < 3; g++) due("a pays for all", 0, x.guest(g, 9));
    }

    /** "NAME: a WORD, none of those told here, in a BOOK or a SENTENCE" */
    static void p04_noWordOfTheTextsIsAName() {
        for (String word : WORDS) {
            bad("guest " + word + " 1 1 1 1;", 6, 1);
            bad("dish " + word + " 1;", 5, 1);
            bad("guest a 1 1 1 1;pays " + word + " a;", 21, 1);
            bad("guest a 1 1 1 1;pays a " + word + ";", 23, 1);
            String longer = word + "x";
            if (longer.length() <= 7) {
                good("guest " + longer + " 1 1 1 1;", 1);
                good("dish " + longer + " 1;", 1);
            }
            String shorter = word.substring(0, word.length() - 1);
            good("dish " + shorter + " 1;", 1);
            good("guest " + shorter + " 1 1 1 1;", 1);
        }
    }

    /** "WORDS: small letters, 1 to 7" */
    static void p04_namesOfOneToSevenLetters() {
        good("guest a 1 1 1 1;", 1);
        good("guest z 1 1 1 1;", 1);
        good("guest zzzzzzz 1 1 1 1;", 1);
        bad("guest zzzzzzzz 1 1 1 1;", 6, 1);
        good("dish aaaaaaa 1;", 1);
        bad("dish aaaaaaaa 1;", 5, 1);
        good("guest aaaaaaa 1 1 1 1;guest aaaaaa 1 1 1 1;guest aaaaaab 1 1 1 1;pays aaaaaab aaaaaa;", 4);
        LastSeat x = hall("guest azbycxd 1 1 1 1;");
        same("all its letters", "azbycxd stands at 1", plate(x, 0));
    }

    /** "NAME: .. told once" */
    static void p04_namesToldOnce() {
        bad("guest a 1 1 1 1;guest a 1 1 1 1;", 22, 3);
        bad("guest a 1 1 1 1;dish a 1;", 21, 3);
        bad("dish a 1;guest a 1 1 1 1;", 15, 3);
        bad("dish a 1;dish a 1;", 14, 3);
        bad("guest a 1 1 1 1;guest b 1 1 1 1;guest c 1 1 1 1;guest a", 54, 3);
        bad("guest a 1 1 1 1;dish d 1;dish a 1;", 30, 3);
        bad("dish d 1;guest a 1 1 1 1;guest d 1 1 1 1;", 31, 3);
        bad("dish d 1;guest a 1 1 1 1;dish e 1;guest a 1 1 1 1;", 40, 3);
        good("guest a 1 1 1 1;guest aa 1 1 1 1;dish aaa 1;dish b 1;", 4);
    }

    /** "not told, or of another sort" */
    static void p04_whoPaysIsAGuest() {
        bad("pays a b;", 5, 3);
        bad("guest a 1 1 1 1;pays b a;", 21, 3);
        bad("guest a 1 1 1 1;pays a b;guest b 1 1 1 1;", 23, 3);
        bad("guest a 1 1 1 1;dish d 1;pays d a;", 30, 3);
        bad("guest a 1 1 1 1;dish d 1;pays a d;", 32, 3);
        bad("guest a 1 1 1 1;pays 1 a;", 21, 1);
        bad("guest a 1 1 1 1;pays a 1;", 23, 1);
    }

    /** "7 GUESTS .. at most" */
    static void p04_sevenGuests() {
        String seven = "chairs 9;" + guests(7, 1, 1);
        good(seven, 8);
        bad(seven + "guest h 1 1 1 1;", seven.length(), 4);
        bad(seven + "guest", seven.length(), 4);
        good("chairs 7;" + guests(7, 1, 1), 8);
        bad("chairs 8;" + guests(7, 1, 1) + " guest", seven.length() + 1, 4);
    }

    /** "(not more than chairs)" */
    static void p04_notMoreGuestsThanChairs() {
        for (int n = 2; n <= 7; n++) {
            String all = "chairs " + n + ";" + guests(n, 1, 1);
            good(all, n + 1);
            bad(all + "guest z 1 1 1 1;", all.length(), 4);
        }
    }

    /** "6 DISHES at most" */
    static void p04_sixDishes() {
        good(dishes(6, 1), 6);
        bad(dishes(6, 1) + "dish a 1;", 54, 4);
        bad(dishes(6, 1) + "dish", 54, 4);
        good(dishes(6, 1) + guests(1, 1, 1), 7);
    }

    /** "numbered from 0 each" */
    static void p04_numberedFrom0Each() {
        LastSeat x = hall("dish d 11;guest a 5 1 1 1;dish e 22;guest b 6 1 1 1;");
        due("a", 5, guestOr(x, 0, 0));
        due("b", 6, guestOr(x, 1, 0));
        due("no third", THROWN, guestOr(x, 2, 0));
        x.serve(1);
        due("e", 22, x.now(3));
    }

    /** All that is told of the last GUEST and the last DISH there may be is known, too. */
    static void p04_theSeventhGuestAndTheSixthDish() {
        String text = "chairs 9;guest ga 11 1 2 3;guest gb 22 2 3 4;guest gc 33 3 4 5;guest gd 44 4 5 6;guest ge 55 5 6 7;"
                + "guest gf 66 6 7 8;guest gg 77 7 8 0;dish da 1;dish db 2;dish dc 4;dish dd 8;dish de 16;dish df 32;pays gg ga;pays ga gg;";
        LastSeat x = hall(text);
        for (int g = 0; g < 7; g++) {
            int[] want = {11 * g + 11, g + 1, g + 2, (g + 3) % 9, 0, 0, 0, 0, 0, g == 0 ? 6 : g == 6 ? 0 : g};
            for (int i = 0; i < 10; i++) due("guest(" + g + ", " + i + ")", want[i], guestOr(x, g, i));
            same("its NAME", "g" + (char) ('a' + g) + " stands at " + (g + 3) % 9, plate(x, g));
        }
        for (int d = 0; d < 6; d++) {
            due("serve(" + d + ")", 0, x.serve(d));
            due("what they cost", (2 << d) - 1, x.now(3));
        }
        due("the last NAMES are known", 21, book(x, "gg sits;serve df;", 0) == 1 ? x.told(0) : NONE);
        due("of a SENTENCE, too", 1 << 6, saidOf(x, "by gg"));
    }

    /** "a text of at most 900 bytes" */
    static void p04_900Bytes() {
        good("dish a 1" + blanks(891) + ";", 1);
        bad("dish a 1" + blanks(892) + ";", 900, 1);
        good(blanks(891) + "dish a 1;", 1);
        bad(blanks(892) + "dish a 1;", 900, 1);
        good(blanks(900), 0);
        bad(blanks(901), 900, 1);
        bad(blanks(940), 900, 1);
        bad("dish a 1;" + blanks(892), 900, 1);
        bad("dish a 1;" + blanks(891) + "\n", 900, 1);
    }

    /** "the most bytes told, if there are more and no FAULT is ahead" */
    static void p04_aFaultAheadOf900() {
        bad("!" + blanks(939), 0, 1);
        bad(blanks(899) + "!" + blanks(40), 899, 1);
        bad(blanks(900) + "!" + blanks(39), 900, 1);
        bad("dish a 0;" + blanks(931), 7, 2);
        bad("dish a 1;" + blanks(885) + "dish a 1;", 899, 3);
        bad("dish a 1;" + blanks(886) + "dish a 1;", 900, 1);
        bad(dishes(6, 1) + blanks(845) + "dish x 1;", 899, 4);
        bad(dishes(6, 1) + blanks(846) + "dish x 1;", 900, 1);
    }

    /** "TOKENS that begin ahead of it are read whole" */
    static void p04_tokensThatBeginAheadOf900() {
        // cut off at 900 these would be 1, a, dish: each of them could come
        bad(blanks(892) + "dish a 100;", 899, 2);
        bad(blanks(892) + "dish a 1000;", 899, 1);
        bad(blanks(892) + "dish a 1x;", 899, 1);
        bad(blanks(894) + "dish abcdefgh 1;", 899, 1);
        bad(blanks(894) + "dish or 1;", 899, 1);
        bad(blanks(896) + "dishes a 1;", 896, 1);
        // these are as told, whole: the FAULT is that there are more bytes
        bad(blanks(892) + "dish a 99;", 900, 1);
        bad("dish a 1;" + blanks(885) + "dish aa 1;", 900, 1);
        bad(blanks(897) + "dish a 1;", 900, 1);
        bad(blanks(899) + "chairs 1;", 900, 1);
    }

    /** "the end: how many bytes there are" and the most that may be are one place here. */
    static void p04_theEndAt900() {
        bad(blanks(896) + "dish", 900, 1);
        bad(blanks(895) + "dish ", 900, 1);
        bad(blanks(892) + "dish a 1", 900, 1);
    }

    /** "A new HALL: ROUND 0, all stand, nobody TIRED, nothing SERVED, hidden, paid, no SENTENCE." */
    static void p04_aNewHallHasNothingOfTheOldOne() {
        LastSeat x = hall(POOR);
        x.serve(0);
        x.sit(0);
        x.serve(0);
        x.rounds(5);
        sentence(x, "seated");
        due("there is one who owes", 1, x.guest(1, 7));
        due("hall()", 4, hall(x, POOR));
        same("all is as in a new object", stateOf(hall(POOR)), stateOf(x));
        x = hall(THREE);
        x.sit(0);
        x.hide(3);
        due("hall()", 7, hall(x, THREE));
        same("nobody sits, nothing is hidden", stateOf(hall(THREE)), stateOf(x));
        due("each CHAIR is free", 0, x.sit(1));
    }

    /** "-1 less the place of a FAULT: it stays." */
    static void p04_aFaultLeavesAll() {
        LastSeat x = hall(THREE);
        x.serve(0);
        x.hide(3);
        x.rounds(1);
        sentence(x, "seated or coins > 50");
        String before = stateOf(x);
        String[] texts = {"!", "chairs 1;", "chairs 3;chairs 3;", "chairs 2;guest a 1 1 1 1;dish d 1;guest b 1 1 1 1;guest c",
            "guest x 1 1 1 1;dish y 1;pays x y;", blanks(901)};
        for (String text : texts) {
            due("a FAULT in " + text, true, hall(x, text) < 0);
            same("all stays", before, stateOf(x));
        }
        due("and can be undone", 2, x.undo());
    }

    /** "0 without one and ahead of any" */
    static void p05_none() {
        LastSeat x = new LastSeat();
        due("ahead of any", 0, x.fault());
        bad("!", 0, 1);
        hall(x, "!");
        hall(x, "");
        due("of a good hall()", 0, x.fault());
        book(x, "!", 0);
        due("of a bad book()", 1, x.fault());
        book(x, "", 0);
        due("of a good book()", 0, x.fault());
        sentence(x, "!");
        due("of a bad sentence()", 1, x.fault());
        sentence(x, "seated");
        due("of a good sentence()", 0, x.fault());
    }

    /** "(a book() of -1000 leaves it)" */
    static void p05_leftByABookOfAnotherLives() {
        LastSeat x = new LastSeat();
        hall(x, "chairs 10;");
        due("of hall()", 2, x.fault());
        for (int lives : new int[] {-1, 2, Integer.MIN_VALUE, Integer.MAX_VALUE}) {
            due("book(" + lives + ")", -1000, x.book(lives));
            due("it stays", 2, x.fault());
        }
        hall(x, "");
        Check.tape(x, "!");
        x.book(2);
        due("0 stays, too", 0, x.fault());
    }

    /** "of the latest hall(), book() or sentence()": no other call. */
    static void p05_otherCallsLeaveIt() {
        LastSeat x = hall(THREE);
        x.image(0);
        hall(x, "dish a 0;");
        x.gone();
        x.proud();
        x.feed(0, 0, 0, 0, 0);
        x.end(0);
        x.sit(0);
        x.undo();
        x.restore(0);
        x.drawn(1, 1);
        x.next();
        guestOr(x, 9, 9);
        due("it stays", 2, x.fault());
    }

    /** "1 no TOKEN, or one that can't come": each byte, where a LINE is due. */
    static void p05_eachByteAlone() {
        for (int b = 0; b < 256; b++) {
            if (b == 32 || b == 10) good("" + (char) b, 0);
            else bad("" + (char) b, 0, 1);
        }
    }

    /** "A WORD, NUMBER goes on as long as small letters and digits do": each byte, behind a NUMBER. */
    static void p05_eachByteBehindANumber() {
        for (int b = 0; b < 256; b++) {
            String text = "chairs 3" + (char) b + ";";
            if (b == 32 || b == 10) good(text, 1);
            else if (b >= '0' && b <= '9') bad(text, 7, 2);
            else if (b >= 'a' && b <= 'z') bad(text, 7, 1);
            else if (b == ';') bad(text, 9, 1);
            else bad(text, 8, 1);
        }
    }

    /** The same behind a WORD. */
    static void p05_eachByteBehindAWord() {
        for (int b = 0; b < 256; b++) {
            String text = "dish a" + (char) b + "1;";
            if (b == 32 || b == 10) good(text, 1);
            else if (b >= '0' && b <= '9' || b >= 'a' && b <= 'z') bad(text, 5, 1);
            else bad(text, 6, 1);
        }
    }

    /** "what is not as told is no TOKEN" */
    static void p05_noTokens() {
        bad("chairs3;", 0, 1);
        bad("3chairs;", 0, 1);
        bad("chairs 0003;", 7, 1);
        bad("chairs 3x;", 7, 1);
        bad("chairs x3;", 7, 1);
        bad("abcdefgh", 0, 1);
        bad("chairs 00000000000000000003;", 7, 1);
        bad("chairs 4294967299;", 7, 1);
        good("chairs 003;", 1);
    }

    /** "FAULTS, the first along the text" */
    static void p05_theFirstAlongTheText() {
        bad("chairs 1;!", 7, 2);
        bad("dish a 0;dish a 0;", 7, 2);
        bad("dish a 1;dish a 0!", 14, 3);
        bad(dishes(6, 1) + "dish m 0;", 54, 4);
        bad("chairs 2;guest a 10 10 1 1;chairs 3;", 20, 2);
        bad("guest a 1 1 10 9;", 12, 2);
        bad("guest a 1 1 1 1;pays b c;", 21, 3);
    }

    /** "(at it; the end: how many bytes there are" */
    static void p05_theEnd() {
        String text = "dish ab 12;";
        int[] place = {0, 0, 0, 0, 4, 5, 6, 7, 8, 9, 10};
        for (int n = 1; n < 11; n++) bad(text.substring(0, n), place[n], 1);
        good(text, 1);
        bad(text + "chairs", 17, 1);
        bad("chairs\n\n", 8, 1);
        bad("guest a 1 1 1", 13, 1);
        bad("guest a 1 1 1 1;pays a", 22, 1);
        bad("guest a 1 1 1 1;guest b 1 1 1 1;pays a b", 40, 1);
    }

    /** "one that can't come": a LINE cut short at each place. */
    static void p05_aLineCutShort() {
        bad("chairs;", 6, 1);
        bad("guest;", 5, 1);
        bad("guest a;", 7, 1);
        bad("guest a 1;", 9, 1);
        bad("guest a 1 1;", 11, 1);
        bad("guest a 1 1 1;", 13, 1);
        bad("dish;", 4, 1);
        bad("dish d;", 6, 1);
        bad("pays;", 4, 1);
        bad("guest a 1 1 1 1;pays;", 20, 1);
        bad("guest a 1 1 1 1;pays a;", 22, 1);
    }

    /** "one that can't come (at it" */
    static void p05_whatCantCome() {
        bad(";", 0, 1);
        bad("chairs 3;;", 9, 1);
        bad("chairs ;", 7, 1);
        bad("chairs chairs;", 7, 1);
        bad("chairs 3 3;", 9, 1);
        bad("guest a 1 1 1;", 13, 1);
        bad("guest a 1 1 1 1 1;", 16, 1);
        bad("guest a a 1 1 1;", 8, 1);
        bad("guest 1 1 1 1;", 6, 1);
        bad("dish d;", 6, 1);
        bad("dish 1;", 5, 1);
        bad("dish d 1 1;", 9, 1);
        bad("guest a 1 1 1 1;pays a;", 22, 1);
        bad("guest a 1 1 1 1;guest b 1 1 1 1;pays a b a;", 41, 1);
        bad("sits", 0, 1);
        bad("(", 0, 1);
        bad("chairs = 3;", 7, 1);
    }

    public static void main(String[] args) throws Exception {
        runAll(HallEdgeTest.class);
    }
}
