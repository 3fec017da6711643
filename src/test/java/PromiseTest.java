/** Each promise by itself, with answers worked out by hand from the document. */
public final class PromiseTest extends Ask {
    private static void p1() {
        LastSeat x = new LastSeat();
        due("count(0)", 6, x.count(0));
        due("count(1)", 0, x.count(1));
        due("count(2)", 0, x.count(2));
        due("count(3)", 0, x.count(3));
        for (int i = 0; i < 8; i++) due("now(" + i + ")", i == 6 ? NONE : 0, x.now(i));
        due("NONE", -1, LastSeat.NONE);
    }

    private static void p2() {
        LastSeat x = new LastSeat();
        for (int i = 1; i <= 47; i++) due("feed", i * 20, x.feed(0, 0, 0, 0, 0));
        due("feed beyond 940", NONE, x.feed(0, 0, 0, 0, 0));
        due("none came", 940, x.count(3));
        x.end(921);
        due("feed to 941", NONE, x.feed(0, 0, 0, 0, 0));
        x.end(920);
        due("feed to 940", 940, x.feed(0, 0, 0, 0, 0));
        x.end(0);
        // "not not seated" of five numbers, the highest byte first
        due("feed", 20, x.feed(0x6e6f7420, 0x6e6f7420, 0x73656174, 0x65640a20, 0x20202020));
        due("the bytes in order", 3, x.sentence());
    }

    private static void p3() {
        LastSeat x = new LastSeat();
        due("end(0)", true, x.end(0));
        due("end(1)", false, x.end(1));
        due("end(-1)", false, x.end(-1));
        x.feed(0, 0, 0, 0, 0);
        due("end(21)", false, x.end(21));
        due("end(20)", true, x.end(20));
        due("end(min)", false, x.end(Integer.MIN_VALUE));
        due("it stays", 20, x.count(3));
        due("end(7)", true, x.end(7));
        due("it has 7", 7, x.count(3));
        due("end(8)", false, x.end(8));
    }

    private static void p4() {
        LastSeat x = new LastSeat();
        due("empty", 0, x.hall());
        Check.tape(x, THREE);
        due("lines", 7, x.hall());
        due("tape", 0, x.count(3));
        Check.tape(x, " \n ");
        due("blanks", 0, x.hall());
        due("6 without", 6, x.count(0));
        Check.tape(x, "chairs 002;guest a 000 0 0 1;\nguest\nb\n999 009 9 0;pays b a;");
        due("zeros ahead, line feeds", 4, x.hall());
        due("coins", 999, guestOr(x, 1, 0));
        Check.tape(x, "dish abcdefg 99;chairs 9;guest b 1 1 1 8;");
        due("'chairs' behind a DISH", 3, x.hall());
        String seven = "";
        for (char c = 'a'; c < 'h'; c++) seven += "guest " + c + " 1 1 1 1;";
        for (char c = 'm'; c < 's'; c++) seven += "dish " + c + " 1;";
        Check.tape(x, "chairs 7;" + seven);
        due("all there may be", 14, x.hall());
        // a new HALL has nothing of the old one
        x = hall(THREE);
        sentence(x, "seated");
        x.serve(0);
        x.hide(3);
        x.sit(0);
        x.rounds(1);
        Check.tape(x, THREE);
        due("again", 7, x.hall());
        for (int i = 0; i < 8; i++) due("now(" + i + ")", i == 6 ? NONE : 0, x.now(i));
        for (int i = 4; i < 9; i++) due("guest(0, " + i + ")", 0, guestOr(x, 0, i));
        due("no SENTENCE", NONE, x.said(NONE));
        due("nothing to undo", NONE, x.undo());
        x = hall(POOR);
        x.serve(0);
        x.sit(0);
        x.rounds(1);
        x.serve(0);
        x.sit(0);
        due("b owes", 3, x.guest(1, 7));
        Check.tape(x, POOR);
        x.hall();
        for (int i = 0; i < 8; i++) due("now(" + i + ") behind a FEAST", i == 6 ? NONE : 0, x.now(i));
        for (int g = 0; g < 2; g++) for (int i = 4; i < 9; i++) due("guest(" + g + ", " + i + ")", 0, guestOr(x, g, i));
        due("coins as told", 1, guestOr(x, 1, 0));
        due("every CHAIR is free", 0, x.sit(0));
        p4limit();
    }

    private static void p4limit() {
        LastSeat x = new LastSeat();
        Check.tape(x, "dish a 1;" + times(" ", 891));
        due("900 bytes", 1, x.hall());
        Check.tape(x, "dish a 1;" + times(" ", 892));
        due("901 bytes", -901, x.hall());
        due("fault", 1, x.fault());
        Check.tape(x, times(" ", 899) + "!" + times(" ", 20));
        due("a FAULT ahead of the most", -900, x.hall());
        Check.tape(x, times(" ", 895) + "chairsabc" + " ");
        due("no TOKEN, as it is read whole", -896, x.hall());
        Check.tape(x, times(" ", 895) + "chairs 1;");
        due("a WORD that goes beyond", -901, x.hall());
        due("fault", 1, x.fault());
        Check.tape(x, "dish a 1;" + times(" ", 886) + "dish a 1;");
        due("cut in its middle", -901, x.hall());
        Check.tape(x, "dish a 1;" + times(" ", 885) + "dish a 1;");
        due("a NAME told twice ahead of the most", -900, x.hall());
        due("fault", 3, x.fault());
        Check.tape(x, "dish a 1;" + times(" ", 886) + "dish a 1;");
        due("a NAME told twice at the most is not read", -901, x.hall());
        due("fault", 1, x.fault());
        String seven = "chairs 9;";
        for (char c = 'a'; c < 'h'; c++) seven += "guest " + c + " 1 1 1 1;";
        Check.tape(x, seven + "guest");
        due("an eighth GUEST", -1 - 121, x.hall());
        due("fault", 4, x.fault());
        Check.tape(x, times(" ", 940));
        due("blanks alone", -901, x.hall());
    }

    private static void p5() {
        LastSeat x = new LastSeat();
        due("ahead of any", 0, x.fault());
        Check.tape(x, "chairs 1;");
        x.hall();
        due("of hall()", 2, x.fault());
        Check.tape(x, "chairs 1;");
        x.book(2);
        due("-1000 leaves it", 2, x.fault());
        x.end(0);
        x.book(0);
        due("of a good book()", 0, x.fault());
        x.sentence();
        due("of sentence()", 1, x.fault());
        x.gone();
        x.proud();
        x.next();
        due("others leave it", 1, x.fault());
        x.hall();
        due("of a good hall()", 0, x.fault());
        book(x, "bob sits;", 0);
        due("of book()", 3, x.fault());
        due("a good sentence()", 1, sentence(x, "seated"));
        due("its fault", 0, x.fault());
        // 1: no TOKEN, or one that can't come
        badHall("!", 0, 1);
        badHall(".", 0, 1);
        badHall(";", 0, 1);
        badHall("  ;", 2, 1);
        badHall("Chairs 3;", 0, 1);
        badHall("\tchairs 3;", 0, 1);
        badHall("foo 3;", 0, 1);
        badHall("3;", 0, 1);
        badHall("chairs", 6, 1);
        badHall("chairs  ", 8, 1);
        badHall("chairs 3", 8, 1);
        badHall("chairs 3 dish", 9, 1);
        badHall("chairs3;", 0, 1);
        badHall("chairs three;", 7, 1);
        badHall("chairs 0003;", 7, 1);
        badHall("guest abcdefgh 1 1 1 1;", 6, 1);
        badHall("guest a2 1 1 1 1;", 6, 1);
        badHall("guest a 1x 1 1 1;", 8, 1);
        badHall("guest a 1000 1 1 1;", 8, 1);
        badHall("guest a 1 1 1;", 13, 1);
        badHall("guest a 1 1 1 1 1;", 16, 1);
        badHall("guest 1 1 1 1;", 6, 1);
        badHall("guest \u00e9 1 1 1 1;", 6, 1);
        badHall("guest number 1 1 1 1;", 6, 1);
        badHall("guest rises 1 1 1 1;", 6, 1);
        badHall("guest pays 1 1 1 1;", 6, 1);
        badHall("dish or 1;", 5, 1);
        badHall("guest a 1 1 1 1;pays a not;", 23, 1);
        badHall("guest a 1 1 1 1;pays a;", 22, 1);
        // 2: a NUMBER that is not as told
        badHall("chairs 1;", 7, 2);
        badHall("chairs 10;", 7, 2);
        badHall("guest a 1 10 1 1;", 10, 2);
        badHall("guest a 1 1 10 1;", 12, 2);
        badHall("guest a 1 1 1 6;", 14, 2);
        badHall("chairs 2;guest a 1 1 1 2;", 23, 2);
        badHall("dish a 0;", 7, 2);
        badHall("dish a 100;", 7, 2);
        // 3: NAMES, 'chairs', who pays
        badHall("chairs 3;chairs 3;", 9, 3);
        badHall("guest a 1 1 1 1;chairs 3;", 16, 3);
        badHall("guest a 1 1 1 1;dish a 1;", 21, 3);
        badHall("dish a 1;guest a 1 1 1 1;", 15, 3);
        badHall("dish a 1;dish a 1;", 14, 3);
        badHall("pays a b;guest a 1 1 1 1;", 5, 3);
        badHall("guest a 1 1 1 1;pays a b;", 23, 3);
        badHall("guest a 1 1 1 1;dish d 1;pays d a;", 30, 3);
        badHall("guest a 1 1 1 1;dish d 1;pays a d;", 32, 3);
        badHall("guest a 1 1 1 1;pays a a;", 23, 3);
        badHall("guest a 1 1 1 1;guest b 1 1 1 1;guest c 1 1 1 1;pays a b;pays c b;", 64, 3);
        badHall("guest a 1 1 1 1;guest b 1 1 1 1;pays a b;pays a b;", 48, 3);
        // 4: one more than there may be
        badHall("chairs 2;guest a 1 1 1 1;guest b 1 1 1 1;guest !", 41, 4);
        badHall("dish a 1;dish b 1;dish c 1;dish d 1;dish e 1;dish f 1;dish", 54, 4);
    }

    private static void p6() {
        LastSeat x = hall(THREE);
        int[][] want = {{50, 1, 1, 0, 0, 0, 0, 0, 0, 0}, {20, 3, 1, 0, 0, 0, 0, 0, 0, 2}, {100, 9, 0, 2, 0, 0, 0, 0, 0, 2}};
        for (int g = 0; g < 3; g++) for (int i = 0; i < 10; i++) due("guest(" + g + ", " + i + ")", want[g][i], guestOr(x, g, i));
        due("guest(3, 0)", THROWN, guestOr(x, 3, 0));
        due("guest(-1, 0)", THROWN, guestOr(x, -1, 0));
        due("guest(0, 10)", THROWN, guestOr(x, 0, 10));
        due("guest(0, -1)", THROWN, guestOr(x, 0, -1));
        due("none at all", THROWN, guestOr(new LastSeat(), 0, 0));
        x.serve(0);
        x.rounds(1);
        due("chair", 1, x.guest(0, 3));
        due("sits", 1, x.guest(0, 4));
        due("tired", 1, x.guest(1, 5));
        x.rounds(2);
        due("hosted", 1, x.guest(2, 6));
        due("coins", 70, x.guest(2, 0));
        due("paid", 30, x.guest(2, 8));
        due("nobody is TIRED", 0, x.guest(2, 5));
    }

    private static void p7() {
        LastSeat x = hall(THREE);
        due("two at 0", 3, x.chair(0, 2));
        due("cy at 2", 4, x.chair(2, 2));
        due("nobody at 1", 0, x.chair(1, 2));
        due("nobody sits", NONE, x.chair(0, 1));
        due("shown", 0, x.chair(3, 0));
        x.sit(1);
        x.hide(3);
        due("bob sits", 1, x.chair(0, 1));
        due("still both", 3, x.chair(0, 2));
        due("hidden", 1, x.chair(3, 0));
        due("chair(4, 0)", NONE, x.chair(4, 0));
        due("chair(-1, 0)", NONE, x.chair(-1, 0));
        due("chair(0, 3)", NONE, x.chair(0, 3));
        due("chair(0, -1)", NONE, x.chair(0, -1));
    }

    private static void p8() {
        LastSeat x = hall(THREE);
        x.serve(1);
        x.hide(3);
        x.rounds(1);
        int[] want = {1, 1, 2, 8, 0, 8, NONE, 0};
        for (int i = 0; i < 8; i++) due("now(" + i + ")", want[i], x.now(i));
        x.rounds(3);
        // chair 3 is hidden: bob sits at 0 in round 4
        int[] then = {4, 0, 0, 0, 1, 8, 2, 8};
        for (int i = 0; i < 8; i++) due("now(" + i + ") then", then[i], x.now(i));
        due("now(8)", NONE, x.now(8));
        due("now(-1)", NONE, x.now(-1));
    }

    private static void p9() {
        LastSeat x = hall(THREE);
        due("no such one", NONE, x.sit(3));
        due("no such one", NONE, x.sit(-1));
        x.serve(0);
        x.serve(1);
        due("bob", 0, x.sit(1));
        due("he sits", 1, x.sit(1));
        due("somebody sits there", 2, x.sit(0));
        due("cy", 0, x.hide(1));
        x.rise(1);
        due("ann", 0, x.sit(0));
        due("cy, too: bob is left", 0, x.sit(2));
        due("HOST", 1, x.now(6));
        due("cy pays for bob", 62, x.guest(2, 0));
        due("not bob", 20, x.guest(1, 0));
        due("he was HOST", 1, x.guest(1, 6));
        due("all rise", 0, x.now(1));
        due("nothing is SERVED", 0, x.now(2));
        due("what is hidden stays so", 2, x.now(5));
        x.rounds(1);
        due("ann at 1, which is hidden", 3, x.sit(0));
        p9owes();
        LastSeat y = hall(ALONE);
        due("one alone sits", 0, y.sit(0));
        due("and is no HOST", 0, y.now(4));
    }

    private static void p9owes() {
        LastSeat x = hall("chairs 2;guest a 10 9 0 0;guest b 99 9 0 1;dish x 99;dish y 1;pays a b;");
        x.serve(0);
        x.serve(1);
        due("a sits", 0, x.sit(0));
        due("a paid for b", 0, x.guest(0, 0));
        due("as far as he had coins", 10, x.guest(0, 8));
        due("and owes the rest", 90, x.guest(0, 7));
        due("b owes nothing", 0, x.guest(1, 7));
        x.serve(0);
        x.sit(0);
        due("owes more", 189, x.guest(0, 7));
        due("paid in all", 10, x.now(7));
        for (int i = 0; i < 100; i++) {
            x.serve(0);
            x.sit(0);
        }
        due("owes it all", 189 + 9900, x.guest(0, 7));
        same("on the PLATE, too", "a stands at 0 owes 10089", plate(x, 0));
        due("who pays nothing is HOST all the same", 102, x.guest(1, 6));
    }

    private static void p10() {
        LastSeat x = hall(THREE);
        due("no such one", NONE, x.rise(3));
        due("no such one", NONE, x.rise(-1));
        due("he stands", 1, x.rise(0));
        x.sit(0);
        due("he rises", 0, x.rise(0));
        due("nobody sits", 0, x.now(1));
        due("the CHAIR is free", 0, x.sit(1));
    }

    private static void p11() {
        LastSeat x = hall(THREE);
        due("no such one", NONE, x.serve(2));
        due("no such one", NONE, x.serve(-1));
        due("ale", 0, x.serve(1));
        due("again", 1, x.serve(1));
        due("soup", 0, x.serve(0));
        due("cost", 38, x.now(3));
    }

    private static void p12() {
        LastSeat x = hall("chairs 5;guest a 1 9 0 0;guest b 1 9 0 1;guest c 1 9 0 2;");
        due("not 0 to 8", NONE, x.hide(9));
        due("not 0 to 8", NONE, x.hide(-1));
        due("none of that number", 1, x.hide(5));
        due("none of that number", 1, x.hide(8));
        x.sit(0);
        due("somebody sits there", 3, x.hide(0));
        due("somebody stands there", 0, x.hide(1));
        due("it is hidden", 2, x.hide(1));
        due("one more", 0, x.hide(4));
        due("fewer than GUESTS", 4, x.hide(3));
        due("hidden ahead of fewer", 2, x.hide(4));
        due("sits ahead of fewer", 3, x.hide(0));
        due("as bits", 18, x.now(5));
        LastSeat y = new LastSeat();
        for (int c = 0; c < 6; c++) due("all without GUESTS", 0, y.hide(c));
        due("CHAIR 0 is shown again", 0, y.show(0));
    }

    private static void p13() {
        LastSeat x = hall(THREE);
        due("not 0 to 8", NONE, x.show(9));
        due("not 0 to 8", NONE, x.show(-1));
        due("none of that number", 1, x.show(4));
        due("it is not hidden", 2, x.show(3));
        x.hide(3);
        due("shown", 0, x.show(3));
        due("nothing is hidden", 0, x.now(5));
    }

    private static void p14() {
        LastSeat x = hall(THREE);
        due("rounds(0)", NONE, x.rounds(0));
        due("rounds(61)", NONE, x.rounds(61));
        due("rounds(-1)", NONE, x.rounds(-1));
        due("rounds(2)", 2, x.rounds(2));
        due("ann sat at 1", 1, x.guest(0, 3));
        due("and went no further", 1, x.now(1));
        due("bob at 2", 2, x.guest(1, 3));
        due("rounds(1)", 1, x.rounds(1));
        due("cy is HOST", 2, x.now(6));
        due("all rise where they are", 1, x.guest(0, 3));
        due("bob at 3", 3, x.guest(1, 3));
        // a sits at 1, b does not go any more
        LastSeat y = hall(TWO);
        y.rounds(1);
        due("the others do not go", 1, y.guest(1, 3));
        due("nor grow TIRED", 0, y.guest(1, 5));
        // all round, hidden ones, too; 99 at most
        LastSeat z = hall("chairs 5;guest solo 7 2 7 1;");
        for (int c = 0; c < 4; c++) z.hide(c);
        due("rounds(1)", 1, z.rounds(1));
        due("1 and 7 of 5", 3, z.guest(0, 3));
        LastSeat w = hall("chairs 3;guest a 7 0 0 1;guest b 7 0 0 1;guest c 7 0 0 1;");
        for (int i = 0; i < 6; i++) due("rounds(60)", 60, w.rounds(60));
        due("99 at most", 99, w.guest(1, 5));
        due("rounds(60) of 40", 40, w.rounds(60));
        due("rounds(1) of none", 0, w.rounds(1));
        due("the ROUND", 400, w.now(0));
        due("sitting is no ROUND", 2, w.sit(1));
    }

    private static void p15() {
        LastSeat x = hall(THREE);
        due("none", NONE, x.undo());
        x.sit(3);
        x.rise(0);
        x.show(0);
        x.rounds(0);
        x.drawn(0, 1);
        due("nothing was done", NONE, x.undo());
        x.serve(0);
        x.hide(3);
        x.sit(0);
        x.rise(0);
        x.show(3);
        x.rounds(3);
        due("a FEAST is over", 1, x.now(4));
        due("undo rounds", 5, x.undo());
        due("it is not", 0, x.now(4) + x.now(0) + x.now(7));
        due("undo show", 4, x.undo());
        due("hidden", 8, x.now(5));
        due("undo rise", 3, x.undo());
        due("ann sits", 1, x.now(1));
        due("undo sit", 2, x.undo());
        due("undo hide", 1, x.undo());
        due("SERVED", 1, x.now(2));
        due("undo serve", 0, x.undo());
        due("none", NONE, x.undo());
        p15more();
    }

    private static void p15more() {
        LastSeat y = hall(POOR);
        y.serve(0);
        y.sit(0);
        due("b owes", 1, y.guest(1, 7));
        due("undo", 1, y.undo());
        for (int i = 4; i < 9; i++) due("guest(1, " + i + ")", 0, y.guest(1, i));
        due("coins", 1, y.guest(1, 0));
        due("SERVED", 1, y.now(2));
        y.rounds(1);
        due("one ROUND", 1, y.undo());
        due("TIRED", 0, y.guest(0, 5));
        book(y, "a sits;", 1);
        due("one LINE", 1, y.undo());
        LastSeat x = hall(THREE);
        for (int i = 0; i < 6; i++) {
            x.sit(0);
            x.rise(0);
        }
        for (int i = 7; i >= 0; i--) due("8 at most", i, x.undo());
        due("none", NONE, x.undo());
        book(x, "ann sits;ann sits;", 0);
        due("a BOOK judged", NONE, x.undo());
        book(x, "ann rises;", 1);
        due("no LINE lived", NONE, x.undo());
        book(x, "ann sits;round 1;ann sits;", 1);
        due("ROUND 1", 1, x.now(0));
        due("a BOOK at once", 0, x.undo());
        due("ROUND 0", 0, x.now(0) + x.now(1));
        x.drawn(5, 77);
        sentence(x, "number = 2");
        due("drawn", 0, x.undo());
        due("ROUND 0", 0, x.now(0));
        due("the SENTENCE is no act", 1, x.said(NONE));
        for (int i = 0; i < 7; i++) x.rounds(60);
        x.rounds(60);
        x.drawn(3, 3);
        due("ROUNDS that did not go", 6, x.undo());
        due("ROUND 360", 360, x.now(0));
        Check.tape(x, "chairs 0;");
        x.hall();
        due("a HALL with a FAULT", 5, x.undo());
        x.hall();
        due("a new HALL", NONE, x.undo());
    }

    private static void p16() {
        LastSeat x = hall(THREE);
        due("cy", 2, x.next());
        due("in", 3, x.nextIn());
        due("all stays", 0, x.now(0) + x.now(1) + x.now(4));
        due("one alone", NONE, hall(ALONE).next());
        due("without GUESTS", NONE, new LastSeat().next());
        // both at one CHAIR for ever, hidden from them
        LastSeat y = hall("chairs 4;guest a 1 0 0 0;guest b 1 0 0 0;");
        y.hide(0);
        due("nobody ever", NONE, y.next());
        // by ROUND 400: a is weary in 3 ROUNDS
        LastSeat z = hall("chairs 4;guest a 1 3 0 0;guest b 1 9 0 0;");
        for (int i = 0; i < 6; i++) z.rounds(60);
        z.rounds(37);
        // FEASTS of 3 ROUNDS: ROUND 397 is the first of one but for what went ahead
        due("ROUND", 397, z.now(0));
        due("FEASTS", 132, z.now(4));
        due("TIRED", 1, z.guest(0, 5));
        due("in two ROUNDS", 1, z.next());
        z.rounds(1);
        z.rounds(1);
        due("a new FEAST", 0, z.guest(0, 5));
        due("one ROUND is left", NONE, z.next());
        z.rounds(1);
        due("no ROUND is left", NONE, z.next());
        LastSeat w = hall(TWO);
        for (int i = 0; i < 6; i++) w.rounds(60);
        w.rounds(39);
        w.rounds(1);
        due("ROUND 400", 400, w.now(0));
        due("NONE by ROUND 400", NONE, w.next());
        due("nor by a trick", NONE, w.trick(0));
        due("nor pushed but at once", 1, w.push(0));
        due("and safe anywhere", 7, w.safe(0));
        due("the latest that was not NONE", 2, z.nextIn());
    }

    private static void p17() {
        LastSeat x = hall(TWO);
        due("ahead of any", NONE, x.nextIn());
        x.next();
        due("in 1", 1, x.nextIn());
        Check.tape(x, ALONE);
        x.hall();
        x.next();
        due("a NONE leaves it", 1, x.nextIn());
        Check.tape(x, THREE);
        x.hall();
        x.rounds(1);
        due("it stays till next()", 1, x.nextIn());
        x.next();
        due("in 2", 2, x.nextIn());
    }

    private static void p18() {
        LastSeat x = hall(THREE);
        due("ann", 8, x.linger(0));
        due("bob", 8, x.linger(1));
        due("cy", 2, x.linger(2));
        due("no such one", NONE, x.linger(3));
        due("no such one", NONE, x.linger(-1));
        x.sit(0);
        due("he sits", NONE, x.linger(0));
        // bob is at ann's CHAIR 0 at 0, 4, 8
        due("bob at 7", 7, x.linger(1));
        LastSeat y = hall(ALONE);
        due("20 at most", 20, y.linger(0));
        y.hide(1);
        due("1 and 2 * 20 of 5 is hidden", 19, y.linger(0));
        LastSeat w = hall(ALONE);
        for (int i = 0; i < 7; i++) w.rounds(60);
        w.rise(0);
        due("ROUND 400 no matter", 20, w.linger(0));
        LastSeat z = hall("chairs 3;guest a 1 9 0 0;guest b 1 9 0 1;");
        z.hide(0);
        due("he can not at any", NONE, z.linger(0));
    }

    private static void p19() {
        LastSeat x = hall(TWO);
        due("b is NEXT", 0, x.trick(1));
        due("none", 0, x.tricking());
        due("a by one", 1, x.trick(0));
        due("CHAIR 1", 2, x.tricking());
        due("all stays", 0, x.now(5));
        due("no such one", NONE, x.trick(2));
        due("no such one", NONE, x.trick(-1));
        due("cy is NEXT", 0, hall(THREE).trick(2));
        due("by none", NONE, hall(THREE).trick(0));
        // no CHAIR can be hidden
        due("as many CHAIRS as GUESTS", NONE, hall("chairs 2;guest a 9 1 1 0;guest b 9 1 1 1;").trick(0));
        x.hide(0);
        due("one more would be too few", NONE, x.trick(0));
        // a waits at 0, 3, 0 ..; hidden both, b sits first
        LastSeat y = hall("chairs 6;guest a 9 0 3 0;guest b 9 2 1 0;");
        due("b is NEXT", 1, y.next());
        due("a by two", 2, y.trick(0));
        due("CHAIRS 0 and 3", 9, y.tricking());
        due("one alone", NONE, hall(ALONE).trick(0));
        LastSeat z = hall(THREE);
        z.sit(2);
        due("one who sits", NONE, z.trick(2));
    }

    private static void p20() {
        LastSeat x = hall(TWO);
        due("ahead of any", NONE, x.tricking());
        x.trick(5);
        due("still", NONE, x.tricking());
        x.trick(0);
        x.trick(7);
        due("a NONE leaves it", 2, x.tricking());
    }

    private static void p21() {
        LastSeat x = hall(TWO);
        due("b is NEXT", 0, x.push(1));
        due("nobody", 0, x.pushing());
        due("a at once", 1, x.push(0));
        due("by b", 2, x.pushing());
        due("all stays", 0, x.now(1) + x.now(4));
        due("no such one", NONE, x.push(2));
        due("no such one", NONE, x.push(-1));
        LastSeat y = hall(THREE);
        due("cy", 0, y.push(2));
        // bob: if cy sits, ann sits at 1 in ROUND 1, and bob is HOST
        due("bob", 1, y.push(1));
        due("by cy", 4, y.pushing());
        // ann: bob and cy sit, at once; by bob alone: ann sits in ROUND 1; by cy alone: likewise
        due("ann", 2, y.push(0));
        due("by both", 6, y.pushing());
        y.sit(1);
        due("he sits", NONE, y.push(1));
        due("ann by cy", 1, y.push(0));
        due("cy", 4, y.pushing());
        LastSeat z = hall("chairs 4;guest a 1 9 0 0;guest b 1 9 0 1;guest c 1 0 0 2;");
        z.hide(1);
        // b can not sit at 1, so a is never left alone
        due("by none", NONE, z.push(0));
        due("b by c, who sits first, and a", 0, z.push(1));
        due("one alone", NONE, hall(ALONE).push(0));
    }

    private static void p22() {
        LastSeat x = hall(TWO);
        due("ahead of any", NONE, x.pushing());
        x.push(9);
        due("still", NONE, x.pushing());
        x.push(0);
        x.push(9);
        due("a NONE leaves it", 2, x.pushing());
    }

    private static void p23() {
        LastSeat x = hall(TWO);
        due("a", 7, x.safe(0));
        due("b", 0, x.safe(1));
        x.hide(1);
        due("a with 1 hidden", 6, x.safe(0));
        due("no such one", NONE, x.safe(2));
        due("no such one", NONE, x.safe(-1));
        due("all stays", 0, x.guest(0, 3));
        LastSeat y = hall(THREE);
        y.sit(0);
        due("he sits", NONE, y.safe(0));
        due("nobody is NEXT", 31, hall(ALONE).safe(0));
    }

    private static void p24() {
        LastSeat x = hall(THREE);
        due("hosts(0)", NONE, x.hosts(0));
        due("hosts(1000)", NONE, x.hosts(1000));
        due("hosts(-1)", NONE, x.hosts(-1));
        due("without GUESTS", 0, new LastSeat().hosts(1));
        // cy pays 100 for bob, then 60 for bob, then ann pays 50
        due("hosts(40)", 3, x.hosts(40));
        due("1", 1, x.hostAt(0));
        due("1", 1, x.hostAt(1));
        due("0", 0, x.hostAt(2));
        due("hosts(50)", 3, x.hosts(50));
        due("bob", 1, x.hostAt(0));
        due("ann, of like ones the first", 0, x.hostAt(1));
        due("bob", 1, x.hostAt(2));
        due("99 at most", 99, x.hosts(1));
        due("hosts(101)", 0, x.hosts(101));
        due("hosts(999)", 0, x.hosts(999));
        due("coins stay", 100, x.guest(2, 0));
    }

    private static void p25() {
        LastSeat x = hall(TWO);
        due("ahead of any", NONE, x.hostAt(0));
        x.hosts(4);
        // 9 5 1 each, by turns
        int[] want = {0, 1, 0, 1, NONE};
        for (int k = 0; k < 5; k++) due("hostAt(" + k + ")", want[k], x.hostAt(k));
        due("hostAt(-1)", NONE, x.hostAt(-1));
        due("hostAt(99)", NONE, x.hostAt(99));
        x.hosts(0);
        due("a NONE leaves it", 1, x.hostAt(1));
        x.hosts(10);
        due("none by 10", NONE, x.hostAt(0));
    }

    private static void p26() {
        LastSeat x = hall(THREE);
        due("empty", NONE, x.gone());
        due("one byte", NONE, gone(x, "\u0001"));
        due("three bytes", NONE, gone(x, "\u0001\u0001\u0001"));
        due("ROUNDS 0", NONE, gone(x, "\u0000\u0001"));
        due("ROUNDS 10", NONE, gone(x, "\n\u0001"));
        // ROUND 1: ann sits at 1, unless it is hidden
        due("ann", 512 + 13, gone(x, "\u0001\u0001"));
        due("nobody", 2, gone(x, "\u0001\u0000"));
        due("bob", 0, gone(x, "\u0001\u0002"));
        due("no such GUESTS", 0, gone(x, "\u0001\u0088"));
        // ROUND 3: the FEAST is over, unless 3 is hidden: then ann sits
        due("behind a FEAST", 512 + 7, gone(x, "\u0003\u0000"));
        due("by 3", 8, gone(x, "\u0003\u0001"));
        x.sit(1);
        // bob sits at 0 and stays, if it is hidden; ann sits at 1 in ROUND 1: cy is HOST
        due("he stays", 2, gone(x, "\u0001\u0002"));
        due("0 to 9 ROUNDS", 1023 - 480, gone(hall(ALONE), "\u0009\u0001"));
        x.hide(3);
        due("hidden already", 512 + 13, gone(x, "\u0001\u0000"));
        due("all stays", 8, x.now(5));
        LastSeat y = hall(ALONE);
        for (int i = 0; i < 7; i++) y.rounds(60);
        y.rise(0);
        due("ROUND 400 no matter", 512 + 31 - (1 << (y.guest(0, 3) + 2) % 5), gone(y, "\u0001\u0001"));
    }

    private static void p27() {
        LastSeat x = hall("chairs 6;guest a 1 1 2 1;guest b 1 1 0 4;guest c 1 1 5 0;");
        due("he is", 0, x.when(0, 1));
        due("1", 1, x.when(0, 3));
        due("2", 2, x.when(0, 5));
        due("never", NONE, x.when(0, 0));
        due("he is", 0, x.when(1, 4));
        due("never", NONE, x.when(1, 5));
        due("5 is 1 back", 5, x.when(2, 1));
        due("no such CHAIR", NONE, x.when(0, 6));
        due("no such CHAIR", NONE, x.when(0, -1));
        due("no such GUEST", NONE, x.when(3, 0));
        due("no such GUEST", NONE, x.when(-1, 0));
    }

    private static void p28() {
        LastSeat x = hall("chairs 5;guest a 10 1 1 0;guest b 3 1 1 0;dish k 6;dish l 5;dish m 4;dish n 5;pays a b;");
        // a alone pays: 10; pairs: l m 9, m n 9, k m 10, l n 10
        due("two", 2, x.menu());
        due("l and m", 6, x.menuOf());
        due("none of two", 1, hall("guest a 7 1 1 0;dish k 6;dish l 4;dish m 4;").menu());
        LastSeat y = hall("guest a 8 1 1 0;dish k 6;dish l 4;dish m 5;dish n 4;");
        due("two for all the coins", 2, y.menu());
        due("l and n", 10, y.menuOf());
        LastSeat z = hall("guest a 50 1 1 0;guest b 3 1 1 0;dish k 4;");
        due("b would have to pay for himself", 0, z.menu());
        due("none", 0, z.menuOf());
        LastSeat w = hall("dish k 99;dish l 98;");
        due("no GUESTS: all", 2, w.menu());
        due("all", 3, w.menuOf());
        due("no DISHES", 0, new LastSeat().menu());
    }

    private static void p29() {
        LastSeat x = hall(TWO);
        due("ahead of any", NONE, x.menuOf());
        x.menu();
        due("x", 1, x.menuOf());
        x.serve(0);
        x.rounds(1);
        due("the latest", 1, x.menuOf());
        x.menu();
        // b has 4 left
        due("none", 0, x.menuOf());
    }

    private static void p30() {
        LastSeat x = new LastSeat();
        due("empty", NONE, x.proud());
        due("one byte", NONE, proud(x, "\u0001"));
        due("three bytes", NONE, proud(x, "\u0001\u0001\u0001"));
        due("neither sat nor not", NONE, proud(x, "\u0001\u0002"));
        due("the second pair", NONE, proud(x, "\u0001\u0001\u0001\u0002"));
        due("sat at 0", 1, proud(x, "\u0000\u0001"));
        due("sat at 9", 1023, proud(x, "\u0009\u0001"));
        due("sat at 99", 1023, proud(x, "c\u0001"));
        due("not at 9", 0, proud(x, "\u0009\u0000"));
        due("not at 8", 512, proud(x, "\u0008\u0000"));
        due("not at 2, sat at 5", 8 + 16 + 32, proud(x, "\u0002\u0000\u0005\u0001"));
        due("both at 2", 0, proud(x, "\u0002\u0000\u0002\u0001"));
        due("8 pairs", 1022, proud(x, times("\u0000\u0000", 8)));
        due("9 pairs", NONE, proud(x, times("\u0000\u0000", 9)));
    }

    private static void p31() {
        LastSeat x = new LastSeat();
        due("ahead of any", NONE, x.watch());
        proud(x, "\u0009\u0000");
        due("0 is none", NONE, x.watch());
        proud(x, "\u0009\u0001");
        due("of ten", 4, x.watch());
        proud(x, "\u0000\u0001");
        due("of one", 0, x.watch());
        proud(x, "\u0008\u0000");
        due("of the last", 0, x.watch());
        proud(x, "\u0002\u0000\u0005\u0001");
        due("3 | 4 5", 3, x.watch());
        proud(x, "");
        due("a NONE leaves it", 3, x.watch());
    }

    private static void p32() {
        due("no GUESTS", THROWN, meanOr(new LastSeat(), 0));
        LastSeat x = hall(THREE);
        due("0 above", 0, meanOr(x, 0));
        due("1 below", 1, meanOr(x, 1));
        due("mean(2)", THROWN, meanOr(x, 2));
        due("mean(-1)", THROWN, meanOr(x, -1));
        x.serve(1);
        x.rounds(3);
        due("8", 8, meanOr(x, 0));
        due("by 3", 3, meanOr(x, 1));
        x.serve(0);
        x.serve(1);
        x.sit(0);
        x.sit(1);
        // 46 by 3
        due("46", 46, meanOr(x, 0));
        LastSeat y = hall("chairs 4;guest a 9 1 1 0;guest b 9 1 1 1;guest c 9 1 1 2;guest d 9 1 1 3;dish x 6;");
        y.serve(0);
        for (int g = 0; g < 3; g++) y.sit(g);
        due("6 by 4: 3", 3, meanOr(y, 0));
        due("by 2", 2, meanOr(y, 1));
        due("of one alone", 1, meanOr(hall(ALONE), 1));
        due("of one alone", 0, meanOr(hall(ALONE), 0));
    }

    private static void p33() {
        LastSeat x = hall("chairs 2;guest abcdefg 0 9 0 1;guest z 0 9 0 0;dish x 99;dish y 1;");
        due("bytes", 19, x.plate(0));
        same("plate(0)", "abcdefg stands at 1", plate(x, 0));
        due("no such one", NONE, x.plate(2));
        due("no such one", NONE, x.plate(-1));
        x.serve(0);
        x.serve(1);
        x.sit(0);
        same("plate(1)", "z stands at 0 owes 100", plate(x, 1));
        x.serve(1);
        x.sit(1);
        same("plate(0)", "abcdefg stands at 1 owes 1", plate(x, 0));
        LastSeat y = hall(THREE);
        y.sit(2);
        same("plate(2)", "cy sits at 2", plate(y, 2));
    }

    private static void p34() {
        LastSeat x = hall(TWO);
        due("ahead of any", NONE, x.byteAt(0));
        x.plate(0);
        due("a", 'a', x.byteAt(0));
        due("0", '0', x.byteAt(12));
        due("behind it", NONE, x.byteAt(13));
        due("byteAt(-1)", NONE, x.byteAt(-1));
        due("byteAt(max)", NONE, x.byteAt(Integer.MAX_VALUE));
        x.plate(2);
        due("a NONE leaves it", 'a', x.byteAt(0));
        x.rounds(1);
        due("what changes leaves it", '0', x.byteAt(12));
    }

    private static int lot;

    private static int draw(int n) {
        lot = lot * 1103515245 + 12345;
        return (lot >>> 8) % n;
    }

    /** ROUNDS DRAWN are the same as the acts that are drawn. */
    private static void drawnByHand(String text, int seed) {
        LastSeat y = hall(text);
        LastSeat z = hall(text);
        y.drawn(9, seed);
        lot = seed;
        for (int i = 0; i < 9; i++) {
            if (z.count(2) > 0 && draw(2) == 0) z.serve(draw(z.count(2)));
            for (int g = 0; g < z.count(1); g++) {
                int d = draw(8);
                if (d == 0) z.sit(g);
                if (d == 1) z.rise(g);
            }
            z.rounds(1);
        }
        for (int i = 0; i < 8; i++) due("now(" + i + ") by seed " + seed + " of " + text, z.now(i), y.now(i));
    }

    private static void p35() {
        LastSeat x = hall(THREE);
        due("drawn(0, 1)", NONE, x.drawn(0, 1));
        due("drawn(61, 1)", NONE, x.drawn(61, 1));
        due("drawn(60, 1)", 60, x.drawn(60, 1));
        due("ROUND", 60, x.now(0));
        for (String text : new String[] {THREE, TWO, POOR, ALONE, "guest a 1 9 1 0;guest b 1 8 2 3;guest c 1 7 1 1;"}) {
            for (int seed = -5; seed < 40; seed++) drawnByHand(text, seed);
        }
        due("drawn(1, 1)", 1, hall(THREE).drawn(1, 1));
        for (int i = 0; i < 5; i++) x.rounds(60);
        due("40 are left", 40, x.drawn(60, 1));
        due("none is left", 0, x.drawn(60, 1));
    }

    private static void p36() {
        LastSeat x = hall(THREE);
        due("no such GUEST", NONE, x.odds(3, 1, 1));
        due("no such GUEST", NONE, x.odds(-1, 1, 1));
        due("n 0", NONE, x.odds(0, 0, 1));
        due("n 31", NONE, x.odds(0, 31, 1));
        for (int g = 0; g < 3; g++) {
            int many = 0;
            for (int i = 0; i < 30; i++) {
                LastSeat y = hall(THREE);
                y.drawn(20, Integer.MAX_VALUE - 10 + i);
                if (y.guest(g, 6) > 0) many++;
            }
            due("odds of " + g, many, x.odds(g, 30, Integer.MAX_VALUE - 10));
            int one = 0;
            for (int i = 0; i < 30; i++) one += x.odds(g, 1, Integer.MAX_VALUE - 10 + i);
            due("odds of " + g + ", one by one", many, one);
        }
        due("all stays", 0, x.now(0) + x.now(4));
        due("nothing to undo", NONE, x.undo());
        x.rounds(3);
        due("who was HOST is not by that", hostSeeds(), x.odds(2, 30, 9));
        for (int seed = 0; seed < 300; seed++) {
            LastSeat y = hall(THREE);
            LastSeat z = hall(THREE);
            z.drawn(20, seed);
            due("20 ROUNDS by seed " + seed, z.guest(0, 6) > 0 ? 1 : 0, y.odds(0, 1, seed));
        }
        for (int i = 0; i < 7; i++) x.rounds(60);
        due("no ROUND is left", 0, x.odds(2, 30, 9));
    }

    private static int hostSeeds() {
        int many = 0;
        for (int i = 0; i < 30; i++) {
            LastSeat y = hall(THREE);
            y.rounds(3);
            y.drawn(20, 9 + i);
            if (y.guest(2, 6) > 1) many++;
        }
        return many;
    }

    private static void p37() {
        LastSeat x = hall(THREE);
        Check.tape(x, "ann sits;");
        due("book(2)", -1000, x.book(2));
        due("book(-1)", -1000, x.book(-1));
        due("the tape stays", 9, x.count(3));
        due("judged", NONE, x.book(0));
        due("the tape is empty", 0, x.count(3));
        due("all stays", 0, x.now(1));
        due("WRONG at once", 0, book(x, "ann rises;bob sits;", 1));
        due("all stays", 0, x.now(1));
        due("WRONG later", 3, book(x, "serve soup;ann sits;hide 3;bob sits;round 1;", 1));
        due("lived so far", 1, x.now(1));
        due("lived so far", 8, x.now(5));
        due("not beyond", 0, x.now(0));
        due("all of it", NONE, book(x, "bob sits;\n", 0) == 0 ? book(x, "show 3;ann rises;round 60;", 1) : 99);
        due("ROUND", 60, x.now(0));
        due("an empty one", NONE, book(x, "", 1));
        LastSeat y = hall(THREE);
        due("each deed", NONE, book(y, "hide 1;ann sits;ann rises;show 1;hide 3;bob sits;serve ale;", 1));
        due("CHAIR 3 is hidden", 8, y.now(5));
        due("bob sits", 2, y.now(1));
        due("ale", 2, y.now(2));
        due("CHAIR 0", NONE, book(y, "bob rises;show 3;hide 0;", 1));
        due("is hidden", 1, y.now(5));
        due("nobody sits", 0, y.now(1));
        due("40 LINES", 1, book(hall(THREE), times("ann sits;", 40), 0));
        p37faults();
    }

    private static void p37faults() {
        badBook("ann sits;" + ";", 9, 1);
        badBook("ann", 3, 1);
        badBook("ann stand;", 4, 1);
        badBook("ann sits", 8, 1);
        badBook("ann sits ann", 9, 1);
        badBook("sits ann;", 0, 1);
        badBook("seated;", 0, 1);
        badBook("chairs 3;", 0, 1);
        badBook("3;", 0, 1);
        badBook("serve 3;", 6, 1);
        badBook("serve or;", 6, 1);
        badBook("hide ann;", 5, 1);
        badBook("ann sits;hide 9;", 14, 2);
        badBook("show 9;", 5, 2);
        badBook("round 0;", 6, 2);
        badBook("round 61;", 6, 2);
        badBook("eve sits;", 0, 3);
        badBook("soup sits;", 0, 3);
        badBook("serve ann;", 6, 3);
        badBook("serve eve;", 6, 3);
        badBook(times("show 1;", 40) + "ann !", 280, 4);
        badBook(times("show 1;", 40) + "round", 280, 4);
        badBook(times("show 1;", 40) + "eve", 280, 3);
        badBook(times("show 1;", 40) + "sits", 280, 1);
        badBook(times("show 1;", 40) + ";", 280, 1);
        badBook("show 1;" + times(" ", 394), 400, 1);
        badBook(times(" ", 397) + "sun sits;", 397, 3);
        badBook(times(" ", 397) + "ann sits;", 400, 1);
        LastSeat x = hall(THREE);
        due("400 bytes", 0, book(x, "show 1;" + times(" ", 393), 0));
    }

    private static void toldOf(String text, int why, int lines, int round, int sits) {
        LastSeat x = hall("chairs 4;guest ann 50 1 1 0;guest bob 20 9 0 0;guest cy 100 9 0 2;dish soup 30;");
        due("book() of " + text, why == 0 ? NONE : lines, book(x, text, 0));
        due("why of " + text, why, x.told(0));
        due("LINES of " + text, lines, x.told(1));
        due("ROUND of " + text, round, x.told(2));
        due("who sits of " + text, sits, x.told(3));
    }

    private static void p38() {
        LastSeat x = hall(THREE);
        for (int i = 0; i < 4; i++) due("ahead of any", NONE, x.told(i));
        toldOf("", 0, 0, 0, 0);
        toldOf("ann sits;round 2;", 0, 2, 2, 1);
        toldOf("round 1;ann sits;bob sits;", 1, 1, 1, 1);
        toldOf("ann sits;bob sits;", 2, 1, 0, 1);
        toldOf("hide 2;cy sits;", 3, 1, 0, 0);
        toldOf("cy sits;ann rises;", 11, 1, 0, 4);
        toldOf("serve soup;serve soup;", 21, 1, 0, 0);
        toldOf("hide 4;", 31, 0, 0, 0);
        toldOf("hide 3;hide 3;", 32, 1, 0, 0);
        toldOf("cy sits;hide 2;", 33, 1, 0, 4);
        toldOf("hide 3;hide 1;", 34, 1, 0, 0);
        toldOf("show 8;", 41, 0, 0, 0);
        toldOf("show 3;", 42, 0, 0, 0);
        toldOf("round 60;round 60;round 60;round 60;round 60;round 60;round 40;", 0, 7, 400, toldSits(400));
        toldOf("round 60;round 60;round 60;round 60;round 60;round 60;round 41;", 51, 6, 360, toldSits(360));
        book(x, "hide 3;", 0);
        due("told(4)", NONE, x.told(4));
        due("told(-1)", NONE, x.told(-1));
        book(x, "hide 3", 0);
        x.book(5);
        due("a FAULT or -1000 leaves it", 1, x.told(1));
    }

    private static int toldSits(int round) {
        LastSeat x = hall("chairs 4;guest ann 50 1 1 0;guest bob 20 9 0 0;guest cy 100 9 0 2;dish soup 30;");
        for (int i = 0; i < round; i++) x.rounds(1);
        return x.now(1);
    }

    private static void p39() {
        LastSeat x = hall(THREE);
        due("one", 1, sentence(x, "seated"));
        due("not: two", 2, sentence(x, "not seated"));
        due("bracket: two", 2, sentence(x, "(seated)"));
        due("all sorts", 12, sentence(x, "seated and ruined or weary and(by ann or for bob)and not coins<1 or tired=2 or hosted>3 and number<7 or weary"));
        due("20", 20, sentence(x, "weary" + times(" or weary", 19)));
        due("8 within", 8, sentence(x, times("not ", 7) + "seated"));
        due("8 within", 8, sentence(x, times("(", 7) + "seated" + times(")", 7)));
        due("the tape", 0, x.count(3));
        badSentence("", 0, 1);
        badSentence("  ", 2, 1);
        badSentence("or", 0, 1);
        badSentence("seated;", 6, 1);
        badSentence("seated or", 9, 1);
        badSentence("seated seated", 7, 1);
        badSentence("(seated", 7, 1);
        badSentence("seated)", 6, 1);
        badSentence("()", 1, 1);
        badSentence("not", 3, 1);
        badSentence("ann", 0, 1);
        badSentence("eve", 0, 1);
        badSentence("by", 2, 1);
        badSentence("by 1", 3, 1);
        badSentence("by seated", 3, 1);
        badSentence("coins 3", 6, 1);
        badSentence("coins < ann", 8, 1);
        badSentence("coins < 1000", 8, 1);
        badSentence("seated and\tweary", 10, 1);
        badSentence("by eve", 3, 3);
        badSentence("for soup", 4, 3);
        badSentence("weary" + times(" or weary", 20), 5 + 9 * 19 + 4, 4);
        badSentence("weary" + times(" or weary", 19) + " or foo", 5 + 9 * 19 + 4, 1);
        badSentence(times("not ", 8) + "seated", 32, 4);
        badSentence(times("(", 8) + "seated", 8, 4);
        badSentence(times("(", 9), 8, 4);
        badSentence(times("(", 8) + ")", 8, 1);
        badSentence(times("not ", 8) + "ann", 32, 1);
        badSentence("seated" + times(" ", 195), 200, 1);
        badSentence(times(" ", 198) + "seated", 200, 1);
        badSentence(times(" ", 198) + "foo", 198, 1);
        due("200 bytes", 1, sentence(x, "seated" + times(" ", 194)));
    }

    private static void p40() {
        LastSeat x = hall(THREE);
        due("none", NONE, x.said(NONE));
        due("none", NONE, x.said(0));
        due("nobody sits", 0, saidOf(x, "seated"));
        due("said(NONE)", 0, x.said(NONE));
        due("said(0)", NONE, x.said(0));
        due("by ann", 3, saidOf(x, "by ann"));
        due("k-th", 1, x.said(1));
        due("none such", NONE, x.said(2));
        due("said(-2)", NONE, x.said(-2));
        due("for ann", 1, saidOf(x, "for ann"));
        due("for bob", 4, saidOf(x, "for bob"));
        due("for cy", 4, saidOf(x, "for cy"));
        due("coins", 5, saidOf(x, "coins > 20"));
        due("coins", 2, saidOf(x, "coins < 21"));
        due("coins", 0, saidOf(x, "coins < 20"));
        due("coins", 4, saidOf(x, "coins > 50"));
        due("number", 1, saidOf(x, "not number > 0"));
        LastSeat y = hall(POOR);
        y.serve(0);
        y.sit(0);
        due("ruined by 1", 2, saidOf(y, "ruined"));
        due("coins", 1, saidOf(x, "coins = 50"));
        due("number", 6, saidOf(x, "not number = 0"));
        due("and binds", 5, saidOf(x, "number = 0 or number = 2 and coins > 99"));
        due("brackets bind", 4, saidOf(x, "(number = 0 or number = 2) and coins > 99"));
        due("not binds most", 4, saidOf(x, "not number = 0 and not number = 1"));
        due("not of brackets", 6, saidOf(x, "not (number = 0 and coins = 50)"));
        x.rounds(1);
        due("seated", 1, saidOf(x, "seated"));
        due("weary", 1, saidOf(x, "weary"));
        due("tired", 7, saidOf(x, "tired = 1"));
        due("by cy", 4, saidOf(x, "by cy"));
        x.serve(0);
        x.rounds(2);
        due("hosted", 4, saidOf(x, "hosted > 0"));
        due("ruined", 0, saidOf(x, "ruined"));
        for (int i = 0; i < 4; i++) {
            x.serve(0);
            x.sit(0);
            x.sit(1);
            due("HOST", 2, x.now(6));
        }
        due("ruined by 150", 4, saidOf(x, "ruined"));
        due("it is said of what is so then", 4, x.said(NONE) == 1 ? 4 : 0);
        due("a SENTENCE without GUESTS", 0, sentence(new LastSeat(), "seated") - 1);
    }

    private static void p41() {
        LastSeat x = hall(THREE);
        due("image(-1)", false, x.image(-1));
        due("image(2)", false, x.image(2));
        due("image(0)", true, x.image(0));
        x.sit(0);
        due("image(1)", true, x.image(1));
        due("undo goes on", 0, x.undo());
        x.restore(1);
        due("1", 1, x.now(1));
        x.restore(0);
        due("0", 0, x.now(1));
        x.sit(1);
        due("again", true, x.image(0));
        x.rise(1);
        x.restore(0);
        due("the later one", 2, x.now(1));
    }

    private static void p42() {
        LastSeat x = hall(THREE);
        due("nothing is kept", false, x.restore(0));
        due("restore(2)", false, x.restore(2));
        due("restore(-1)", false, x.restore(-1));
        sentence(x, "number > 0");
        x.serve(0);
        x.hide(3);
        x.rounds(2);
        x.image(1);
        due("restore(0)", false, x.restore(0));
        due("what is no restore leaves undo", 2, x.undo());
        Check.tape(x, TWO);
        x.hall();
        x.next();
        x.plate(0);
        x.menu();
        x.sit(0);
        Check.tape(x, "by");
        due("restore(1)", true, x.restore(1));
        due("the tape stays", 2, x.count(3));
        due("nothing can be undone", NONE, x.undo());
        due("GUESTS", 3, x.count(1));
        due("CHAIRS", 4, x.count(0));
        due("the SENTENCE", 2, x.said(NONE));
        int[] want = {2, 1, 1, 30, 0, 8, NONE, 0};
        for (int i = 0; i < 8; i++) due("now(" + i + ")", want[i], x.now(i));
        due("bob's payer", 2, x.guest(1, 9));
        due("nextIn() stays", 1, x.nextIn());
        due("the PLATE stays", 'a', x.byteAt(0));
        due("menuOf() stays", 1, x.menuOf());
        x.rounds(2);
        due("and it goes on", 2, x.now(6));
        due("restore(1) again", true, x.restore(1));
        due("ROUND 2", 2, x.now(0));
        same("the NAME", "cy stands at 2", plate(x, 2));
        due("NAMES are known", -2 - 0, book(x, "a sits;", 0));
        due("NAMES are known", NONE, book(x, "bob sits;", 0));
    }

    private static void p43() {
        LastSeat x = hall(THREE);
        due("CHAIRS", 4, x.count(0));
        due("GUESTS", 3, x.count(1));
        due("DISHES", 2, x.count(2));
        due("tape", 0, x.count(3));
        x.feed(1, 2, 3, 4, 5);
        due("tape", 20, x.count(3));
        x.hide(3);
        due("hidden ones count", 4, x.count(0));
        due("count(4)", NONE, x.count(4));
        due("count(-1)", NONE, x.count(-1));
    }

    public static void main(String[] args) throws Exception {
        runAll(PromiseTest.class);
    }
}
