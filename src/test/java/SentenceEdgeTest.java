/** Boundary cases of SENTENCES: promises 39 and 40. */
public final class SentenceEdgeTest extends Ask {
    private static final int[] FAR = {Integer.MIN_VALUE, -100, -2, 7, 8, 31, 32, 33, Integer.MAX_VALUE};

    private static void ones(String text, int ones) {
        LastSeat x = hall(THREE);
        due("sentence() of " + text, ones, sentence(x, text));
        due("fault() of " + text, 0, x.fault());
    }

    /** A COND is never empty. */
    static void p39_empty() {
        badSentence("", 0, 1);
        badSentence(" ", 1, 1);
        badSentence("\n \n", 3, 1);
        badSentence("()", 1, 1);
        badSentence(blanks(200), 200, 1);
        badSentence(blanks(201), 200, 1);
    }

    /** "how many ONES (each not, bracket and other one)" */
    static void p39_eachOne() {
        ones("seated", 1);
        ones("not seated", 2);
        ones("(seated)", 2);
        ones("not not seated", 3);
        ones("not(seated)", 3);
        ones("(seated and weary)", 3);
        ones("(seated)or(weary)", 4);
        ones("coins<1 and tired=1 and hosted>1 and number<1 and by ann and for ann and ruined", 7);
    }

    /** "20 ONES" */
    static void p39_20Ones() {
        ones("weary" + times(" or weary", 19), 20);
        ones("weary" + times(" and weary", 19), 20);
        ones(times("(weary)or", 9) + "(weary)", 20);
        ones(times("not weary or ", 9) + "not weary", 20);
        ones(times("weary or ", 18) + "not weary", 20);
    }

    /** "a 21st ONE .. (at its first TOKEN)": each sort of it. */
    static void p39_21stOne() {
        String twenty = "weary" + times(" or weary", 19);
        badSentence(twenty + " or weary", 180, 4);
        badSentence(twenty + " or not weary", 180, 4);
        badSentence(twenty + " or (weary)", 180, 4);
        badSentence(twenty + " or by eve", 180, 4);
        badSentence(twenty + " or coins ! 3", 180, 4);
        badSentence(times("weary or ", 19) + "not weary", 175, 4);
        badSentence(times("weary or ", 19) + "(weary)", 172, 4);
        badSentence("(" + times("weary or ", 19) + "weary)", 172, 4);
    }

    /** "of one TOKEN the least": what can't come is 1, not 4. */
    static void p39_whatCantComeAsA21st() {
        String twenty = "weary" + times(" or weary", 19);
        badSentence(twenty + " or ann", 180, 1);
        badSentence(twenty + " or )", 180, 1);
        badSentence(twenty + " or or", 180, 1);
        badSentence(twenty + " or 1", 180, 1);
        badSentence(twenty + " or sits", 180, 1);
        badSentence(twenty + " or", 179, 1);
        badSentence(twenty + " weary", 177, 1);
        badSentence(twenty + ")", 176, 1);
        badSentence(twenty + ";", 176, 1);
    }

    /** "8 within one another" */
    static void p39_8Within() {
        ones(times("not ", 7) + "seated", 8);
        ones(times("(", 7) + "seated" + times(")", 7), 8);
        ones("not(not(not(not seated)))", 8);
        ones(times("(", 7) + "seated or weary" + times(")", 7), 9);
        ones(times("(", 7) + "seated" + times(")", 7) + "or" + times("(", 7) + "weary" + times(")", 7), 16);
        ones(times("not ", 7) + "seated and " + times("not ", 7) + "weary", 16);
    }

    /** "a ninth within (at its first TOKEN)": each sort of it. */
    static void p39_aNinthWithin() {
        badSentence(times("not ", 8) + "seated", 32, 4);
        badSentence(times("not ", 9) + "seated", 32, 4);
        badSentence(times("(", 8) + "seated" + times(")", 8), 8, 4);
        badSentence(times("(", 9), 8, 4);
        badSentence(times("(", 8) + "not", 8, 4);
        badSentence("not(not(not(not(seated))))", 16, 4);
        badSentence(times("(", 7) + "seated or not weary", 21, 4);
        badSentence(times("(", 7) + "seated or (weary", 18, 4);
    }

    /** "of one TOKEN the least" */
    static void p39_whatCantComeAsANinth() {
        badSentence(times("not ", 8) + "ann", 32, 1);
        badSentence(times("not ", 8), 32, 1);
        badSentence(times("(", 8) + ")", 8, 1);
        badSentence(times("(", 8) + "and", 8, 1);
        badSentence(times("(", 8), 8, 1);
    }

    /** "a text of at most 200 bytes" */
    static void p39_200Bytes() {
        ones("seated" + blanks(194), 1);
        badSentence("seated" + blanks(195), 200, 1);
        ones(blanks(194) + "seated", 1);
        badSentence(blanks(195) + "seated", 200, 1);
        badSentence("seated" + blanks(934), 200, 1);
        badSentence("seated" + blanks(194) + "or", 200, 1);
        badSentence("seated" + blanks(191) + "and", 200, 1);
    }

    /** "no FAULT is ahead: TOKENS that begin ahead of it are read whole" */
    static void p39_tokensThatBeginAheadOf200() {
        badSentence(blanks(191) + "coins < 999", 200, 1);
        badSentence(blanks(191) + "coins < 1000", 199, 1);
        badSentence(blanks(192) + "coins < 1000", 200, 1);
        badSentence(blanks(196) + "by ann", 200, 1);
        badSentence(blanks(196) + "by anna", 199, 3);
        badSentence(blanks(196) + "by ruined", 199, 1);
        badSentence(blanks(197) + "by anna", 200, 1);
        badSentence(blanks(199) + "seated", 200, 1);
        badSentence(blanks(199) + "seatedx", 199, 1);
        badSentence(blanks(199) + "!", 199, 1);
        badSentence(blanks(200) + "!", 200, 1);
        badSentence(times("(", 8) + blanks(191) + "seated", 199, 4);
        badSentence(times("(", 8) + blanks(192) + "seated", 200, 1);
    }

    /** FAULTS of kind 1, where one thing is due and another comes, and at the end. */
    static void p39_whatCantCome() {
        badSentence("or", 0, 1);
        badSentence(")", 0, 1);
        badSentence("ann", 0, 1);
        badSentence("sits", 0, 1);
        badSentence("7", 0, 1);
        badSentence("seated seated", 7, 1);
        badSentence("seated;", 6, 1);
        badSentence("seated and", 10, 1);
        badSentence("seated or", 9, 1);
        badSentence("seated or or weary", 10, 1);
        badSentence("seated and or weary", 11, 1);
        badSentence("not", 3, 1);
        badSentence("not or", 4, 1);
        badSentence("(seated", 7, 1);
        badSentence("(seated;", 7, 1);
        badSentence("(seated))", 8, 1);
        badSentence("seated not weary", 7, 1);
        badSentence("by", 2, 1);
        badSentence("for 1", 4, 1);
        badSentence("by not", 3, 1);
        badSentence("coins", 5, 1);
        badSentence("coins 3", 6, 1);
        badSentence("coins ( 3", 6, 1);
        badSentence("coins <", 7, 1);
        badSentence("coins < < 3", 8, 1);
        badSentence("coins <= 3", 7, 1);
        badSentence("coins > ann", 8, 1);
        badSentence("tired = (3)", 8, 1);
    }

    /** "3 a NAME .. not told, or of another sort" */
    static void p39_names() {
        badSentence("by eve", 3, 3);
        badSentence("for eve", 4, 3);
        badSentence("by soup", 3, 3);
        badSentence("for soup", 4, 3);
        badSentence("by an", 3, 3);
        LastSeat x = new LastSeat();
        due("without GUESTS", -4, sentence(x, "by ann"));
        due("3", 3, x.fault());
        due("a SENTENCE without NAMES", 1, sentence(x, "seated"));
        due("is said of nobody", 0, x.said(NONE));
    }

    /** A NUMBER is 0 to 999. */
    static void p39_numbers() {
        ones("coins < 0", 1);
        ones("coins < 000", 1);
        ones("number = 999", 1);
        badSentence("number = 1000", 9, 1);
        badSentence("number = 0000", 9, 1);
    }

    /** "-1 less the place of a FAULT: it stays": where there was none, none is. */
    static void p39_noneStaysNone() {
        LastSeat x = hall(THREE);
        due("a FAULT", -1, sentence(x, "!"));
        due("there is none", NONE, x.said(NONE));
        due("a FAULT behind a good part", -7, sentence(x, "seated!"));
        due("there is none", NONE, x.said(NONE));
    }

    /** "how many (k NONE), or the k-th. NONE: .. none such" */
    static void p40_theKth() {
        LastSeat x = hall(FULL);
        sentence(x, "number > 0 and number < 6");
        due("how many", 5, x.said(NONE));
        for (int k = 0; k < 5; k++) due("said(" + k + ")", k + 1, x.said(k));
        due("said(5)", NONE, x.said(5));
        for (int k : FAR) due("said(" + k + ")", NONE, x.said(k));
        sentence(x, "number < 0");
        due("of nobody", 0, x.said(NONE));
        due("said(0)", NONE, x.said(0));
        sentence(x, "number < 7");
        due("of all", 7, x.said(NONE));
        due("the last", 6, x.said(6));
        due("none such", NONE, x.said(7));
    }

    /** "NONE: there is no SENTENCE" */
    static void p40_noSentence() {
        LastSeat x = hall(THREE);
        for (int k = -2; k < 4; k++) due("ahead of any", NONE, x.said(k));
        sentence(x, "number < 7");
        due("of three", 3, x.said(NONE));
        hall(x, THREE);
        for (int k = -2; k < 4; k++) due("in a new HALL", NONE, x.said(k));
    }

    /** "'ruined' (he owes something)" */
    static void p40_ruined() {
        LastSeat x = hall("chairs 2;guest a 0 9 0 0;guest b 2 9 0 1;dish x 2;dish y 1;");
        due("nobody", 0, saidOf(x, "ruined"));
        x.serve(0);
        x.sit(0);
        due("b, without a coin, owes nothing", 0, saidOf(x, "ruined"));
        x.serve(1);
        x.sit(0);
        due("b owes 1", 2, saidOf(x, "ruined"));
    }

    /** "'weary' (he is as TIRED as his PRIDE, or more)" */
    static void p40_weary() {
        LastSeat x = hall("chairs 9;guest a 0 0 0 8;guest b 0 1 0 8;guest c 0 2 0 8;guest d 0 9 0 8;");
        x.hide(8);
        int[] want = {1, 3, 7, 7, 7, 7, 7, 7, 7, 15, 15};
        for (int k = 0; k <= 10; k++) {
            due("behind " + k + " ROUNDS", want[k], saidOf(x, "weary"));
            x.rounds(1);
        }
    }

    /** Each as TIRED as he is himself: one who sits grows no more so. */
    static void p40_eachAsTiredAsHeIs() {
        LastSeat x = hall("chairs 4;guest a 0 1 0 0;guest b 0 2 0 3;guest c 0 9 0 1;");
        x.hide(3);
        x.rounds(2);
        due("a sits", 1, saidOf(x, "seated"));
        due("a and b", 3, saidOf(x, "weary"));
        due("a", 1, saidOf(x, "tired = 1"));
        due("b and c", 6, saidOf(x, "tired = 2"));
    }

    /** "'by' GUEST (at one CHAIR, himself, too)" */
    static void p40_by() {
        LastSeat x = hall(THREE);
        due("ann", 3, saidOf(x, "by ann"));
        due("bob", 3, saidOf(x, "by bob"));
        due("cy, himself alone", 4, saidOf(x, "by cy"));
        x.sit(0);
        due("who sits, too", 3, saidOf(x, "by bob"));
        due("seated", 1, saidOf(x, "seated"));
    }

    /** "'for' GUEST (.. for himself, if nobody else does)" */
    static void p40_for() {
        LastSeat x = hall(THREE);
        due("ann, himself", 1, saidOf(x, "for ann"));
        due("bob, cy for him", 4, saidOf(x, "for bob"));
        due("cy, himself, too", 4, saidOf(x, "for cy"));
        LastSeat y = hall("guest a 0 0 0 0;guest b 0 0 0 0;pays a b;pays b a;");
        due("one for the other", 2, saidOf(y, "for a"));
        due("one for the other", 1, saidOf(y, "for b"));
    }

    /** "SIGN: < = >": at the NUMBER itself and beside it; 0 and 999. */
    static void p40_signs() {
        LastSeat x = hall("guest a 0 9 0 0;guest b 1 9 0 0;guest c 998 9 0 0;guest d 999 9 0 0;");
        due("coins < 0", 0, saidOf(x, "coins < 0"));
        due("coins = 0", 1, saidOf(x, "coins = 0"));
        due("coins > 0", 14, saidOf(x, "coins > 0"));
        due("coins < 1", 1, saidOf(x, "coins < 1"));
        due("coins = 1", 2, saidOf(x, "coins = 1"));
        due("coins > 1", 12, saidOf(x, "coins > 1"));
        due("coins < 999", 7, saidOf(x, "coins < 999"));
        due("coins = 999", 8, saidOf(x, "coins = 999"));
        due("coins > 998", 8, saidOf(x, "coins > 998"));
        due("coins > 999", 0, saidOf(x, "coins > 999"));
        due("number < 2", 3, saidOf(x, "number < 2"));
        due("number = 3", 8, saidOf(x, "number = 3"));
        due("number > 3", 0, saidOf(x, "number > 3"));
    }

    /** TIRED goes up to 99; "hosted": how often he was HOST. */
    static void p40_tiredAndHosted() {
        LastSeat x = hall("chairs 3;guest a 0 0 0 0;guest b 0 9 0 0;");
        x.hide(0);
        allRounds(x, 98);
        due("98", 3, saidOf(x, "tired = 98"));
        x.rounds(1);
        due("99", 3, saidOf(x, "tired > 98"));
        x.rounds(1);
        due("99 still", 3, saidOf(x, "tired = 99"));
        due("not less", 0, saidOf(x, "tired < 99"));
        due("not more", 0, saidOf(x, "tired > 99"));
        due("not 98", 0, saidOf(x, "tired = 98"));
        x.show(0);
        due("hosted", 3, saidOf(x, "hosted = 0"));
        for (int i = 0; i < 3; i++) x.sit(0);
        due("b three times", 2, saidOf(x, "hosted = 3"));
        due("b", 2, saidOf(x, "hosted > 2"));
        due("a", 1, saidOf(x, "hosted < 3"));
        due("nobody is TIRED", 3, saidOf(x, "tired < 1"));
    }

    /** It is said of what is so when it is asked. */
    static void p40_ofWhatIsSoThen() {
        LastSeat x = hall(THREE);
        sentence(x, "seated");
        due("nobody", 0, x.said(NONE));
        x.sit(2);
        due("cy", 2, x.said(0));
        x.undo();
        due("nobody", 0, x.said(NONE));
    }

    /** 'and' binds more than 'or', 'not' more than both; the deepest and the longest. */
    static void p40_howItIsRead() {
        LastSeat x = hall(FULL);
        due("not not not", 126, saidOf(x, "not not not number = 0"));
        due("seven nots", 126, saidOf(x, times("not ", 7) + "number = 0"));
        due("seven brackets", 1, saidOf(x, times("(", 7) + "number = 0" + times(")", 7)));
        due("or and", 1 + 4, saidOf(x, "number = 0 or number > 1 and number < 3"));
        due("and or", 4 + 64, saidOf(x, "number > 1 and number < 3 or number = 6"));
        due("not and", 0, saidOf(x, "not number < 7 and number = 0"));
        due("not of a bracket", 127, saidOf(x, "not (number > 0 and number = 0)"));
        due("twenty", 127, saidOf(x, "weary" + times(" or weary", 18) + " or number<7"));
        due("ten brackets", 3, saidOf(x, "(number<2)" + times("and(number<2)", 9)));
        due("not behind another", 5, saidOf(x, "number < 3 and not number = 1"));
        due("or within and", 0, saidOf(x, "number = 5 and (number = 1 or number = 2)"));
        due("a sign behind others", 12, saidOf(x, "seated or number > 1 and number < 4"));
        LastSeat y = hall(THREE);
        due("coins behind others", 5, saidOf(y, "seated or coins > 20"));
        due("tired behind others", 7, saidOf(y, "seated or tired < 1"));
        due("hosted behind others", 7, saidOf(y, "seated or hosted < 1"));
        due("to the right", 2, saidOf(x, "number<3 and (number<2 and (number>0 and (number<9 or weary)))"));
    }

    public static void main(String[] args) throws Exception {
        runAll(SentenceEdgeTest.class);
    }
}
