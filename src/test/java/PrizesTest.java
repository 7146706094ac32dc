/** Promises 19 to 22: the tape, texts of prizes, their faults, and prizes given. */
public final class PrizesTest {
    private static final int NONE = FairHall.NONE;
    private static final Check C = new Check("PrizesTest");

    public static void main(String[] args) {
        feed();
        prizes();
        goodTexts();
        noToken();
        misplaced();
        ninth();
        outOfRange();
        toldTwice();
        firstAlongTheText();
        fault();
        given();
        givenByWishes();
        givenAlone();
        givenByFair();
        givenAcrossHeaps();
        givenRefused();
        C.finish();
    }

    private static void feed() {
        FairHall x = new FairHall();
        for (int i = 1; i <= 15; i++) {
            C.due("feed " + i, x.feed(0x20202020, 0x20202020, 0x20202020, 0x20202020, 0x20202020), 20 * i);
        }
        C.due("a feed too many", x.feed(0, 0, 0, 0, 0), NONE);
        C.due("status() behind a feed refused", x.status(), 0);
        C.due("the tape is as it was", x, x.prizes(300), 0, 0);
        C.due("the tape is empty", x.feed(0, 0, 0, 0, 0), 20);
        // The highest byte first, int by int: "prize best 1 alone ;"
        FairHall y = new FairHall();
        y.feed(0x7072697a, 0x65206265, 0x73742031, 0x20616c6f, 0x6e65203b);
        C.due("twenty bytes in order", y, y.prizes(20), 1, 0);
        // Bytes above 127 are none of a text.
        y.feed(0x20202080, 0, 0, 0, 0);
        C.dueNone("byte 128", y, y.prizes(4), 7);
        C.due("its place", y.fault(1), 3);
        y.feed(0xffffffff, 0, 0, 0, 0);
        C.dueNone("byte 255", y, y.prizes(1), 7);
        C.due("its fault", y.fault(0), 1);
    }

    private static void prizes() {
        FairHall x = new FairHall();
        Check.feed(x, "prize best 1;prize best 2;");
        C.dueNone("n below 0", x, x.prizes(-1), 2);
        C.dueNone("n above the tape", x, x.prizes(41), 2);
        C.due("the tape is as it was", x, x.prizes(13), 1, 0);
        C.dueNone("the tape is empty, behind n too", x, x.prizes(1), 2);
        C.due("two in place of one", x, Check.prizes(x, "prize best 1;prize best 2;"), 2, 0);
        Check.feed(x, "prize best 1;prize");
        C.dueNone("a faulty text", x, x.prizes(18), 7);
        C.dueNone("the tape is empty behind a fault", x, x.prizes(1), 2);
        x.board(0, 0, 0, 0, false);
        x.judge(0, 0, 0);
        x.mark(0, 0, 1, 0);
        C.due("the prizes ahead of a fault stay", x, x.given(1, 0, 0), 0, 0);
        C.due("no prizes in place of all", x, x.prizes(0), 0, 0);
        C.dueNone("they are gone", x, x.given(0, 0, 0), 1);
    }

    private static void goodTexts() {
        good("", 0);
        good(" \n ", 0);
        good("prize best 1;", 1);
        good("\nprize\nbest\n1\n;\n", 1);
        good("prize best1alone;prize best 024;", 2);
        good("prize field0age1school2seen3best4;", 1);
        good("prize seen 12 school 15 age 3 field 7 best 24 alone;", 1);
        good("prize field 000 best 001 ;", 1);
        good("prize school 0 age 0 seen 1 best 1;", 1);
        good("prize best 1;".repeat(8), 8);
    }

    private static void good(String text, int many) {
        FairHall x = new FairHall();
        C.due("prizes of '" + text + "'", x, Check.prizes(x, text), many, 0);
        C.due("fault(0) of '" + text + "'", x.fault(0), 0);
        C.due("fault(1) of '" + text + "'", x.fault(1), NONE);
    }

    private static void bad(String text, int kind, int place) {
        FairHall x = new FairHall();
        C.dueNone("prizes of '" + text + "'", x, Check.prizes(x, text), 7);
        C.due("fault(0) of '" + text + "'", x.fault(0), kind);
        C.due("fault(1) of '" + text + "'", x.fault(1), place);
    }

    private static void noToken() {
        bad("?", 1, 0);
        bad("  \tprize best 1;", 1, 2);
        bad("Prize best 1;", 1, 0);
        bad("prize best -1;", 1, 11);
        bad("prize best 1000;", 1, 11);
        bad("prize best 0001;", 1, 11);
        bad("prize 1234567890123456 best 1;", 1, 6);
        bad("prize best 1;`", 1, 13);
        bad("prize best 1;{", 1, 13);
        bad("prize best 1;/", 1, 13);
        bad("prize best 1;:", 1, 13);
        bad("prize best 1;\r", 1, 13);
        bad("prize best 1;\u0000", 1, 13);
        bad("prize best 1;\u00e1", 1, 13);
    }

    private static void misplaced() {
        bad("best", 2, 0);
        bad(";", 2, 0);
        bad("7", 2, 0);
        bad("prize", 2, 5);
        bad("prize  ", 2, 7);
        bad("prize best", 2, 10);
        bad("prize best 1", 2, 12);
        bad("prize best 1 alone", 2, 18);
        bad("prize best 1 alone alone;", 2, 19);
        bad("prize field", 2, 11);
        bad("prize field best 1;", 2, 12);
        bad("prize field ;", 2, 12);
        bad("prize alone best 1;", 2, 6);
        bad("prize prize best 1;", 2, 6);
        bad("prize ;", 2, 6);
        bad("prize best ;", 2, 11);
        bad("prize best 1 2;", 2, 13);
        bad("prize best 1 field 2;", 2, 13);
        bad("prize best 1 prize best 1;", 2, 13);
        bad("prize best 1;;", 2, 13);
        bad("prize best 1; alone", 2, 14);
        bad("prizes best 1;", 2, 0);
        bad("priz best 1;", 2, 0);
        bad("qrize best 1;", 2, 0);
        bad("prizd best 1;", 2, 0);
        bad("prize bes 1;", 2, 6);
        bad("prize bestt 1;", 2, 6);
        bad("prize fields 1 best 1;", 2, 6);
        bad("prize best 1 along;", 2, 13);
        bad("prize best 1x;", 2, 12);
        FairHall x = new FairHall();
        Check.feed(x, "prize best 1;");
        C.dueNone("a text that ends ahead of the tape's end", x, x.prizes(12), 7);
        C.due("its fault", x.fault(0), 2);
        C.due("its place is the text's length", x.fault(1), 12);
        // What lies behind the text on the tape makes no token longer.
        Check.feed(x, "prize best 1 alone;");
        C.dueNone("a word cut off", x, x.prizes(15), 7);
        C.due("its place", x.fault(1), 13);
        Check.feed(x, "prize best 1234;");
        C.dueNone("a number cut off", x, x.prizes(13), 7);
        C.due("its fault", x.fault(0), 2);
        C.due("its place", x.fault(1), 13);
    }

    private static void ninth() {
        bad("prize best 1;".repeat(8) + "prize best 1;", 3, 104);
        bad("prize best 1;".repeat(8) + " \nprize", 3, 106);
        bad("prize best 1;".repeat(8) + "best", 2, 104);
        bad("prize best 1;".repeat(8) + "?", 1, 104);
    }

    private static void outOfRange() {
        bad("prize best 0;", 4, 11);
        bad("prize best 25;", 4, 11);
        bad("prize best 999;", 4, 11);
        bad("prize field 8 best 1;", 4, 12);
        bad("prize age 4 best 1;", 4, 10);
        bad("prize school 16 best 1;", 4, 13);
        bad("prize seen 0 best 1;", 4, 11);
        bad("prize seen 13 best 1;", 4, 11);
    }

    private static void toldTwice() {
        bad("prize field 1 field 1 best 1;", 5, 14);
        bad("prize age 1 age 2 best 1;", 5, 12);
        bad("prize school 1 field 0 school", 5, 23);
        bad("prize seen 1 seen 0 best 1;", 5, 13);
        bad("prize field 1 age 1 school 1 seen 1 seen", 5, 36);
        good("prize field 1 best 1;prize field 1 best 1;", 2);
    }

    private static void firstAlongTheText() {
        bad("prize field 9 ?", 4, 12);
        bad("prize field 1 field 9999 best 1;", 5, 14);
        bad("prize best 0 prize", 4, 11);
        bad("prize ? best", 1, 6);
        bad("foo ?", 2, 0);
        bad("priZe", 2, 0);
        bad("prize bestX", 1, 10);
    }

    private static void fault() {
        FairHall x = new FairHall();
        C.due("ahead of any", x.fault(0), NONE);
        C.dueNone("a refused one", x, x.prizes(1), 2);
        C.due("fault(0) behind a refused one", x.fault(0), NONE);
        C.due("fault(1) behind a refused one", x.fault(1), NONE);
        Check.prizes(x, "prize best 0;");
        x.prizes(1);
        x.prizes(-1);
        C.due("fault(0) of the latest read", x.fault(0), 4);
        C.due("fault(1) of the latest read", x.fault(1), 11);
        C.due("fault(2)", x.fault(2), NONE);
        C.due("fault(-1)", x.fault(-1), NONE);
        x.plan();
        C.due("fault(0) behind other calls", x.fault(0), 4);
        x.prizes(0);
        C.due("fault(0) without one", x.fault(0), 0);
        C.due("fault(1) without one", x.fault(1), NONE);
        C.due("fault(2) without one", x.fault(2), NONE);
    }

    /** Boards 0 to 5, marked by one judge 50, 70, 60, 70, 40 and not at all. */
    private static FairHall six() {
        FairHall x = new FairHall();
        x.board(0, 0, 0, 0, false);
        x.board(1, 1, 1, 0, false);
        x.board(0, 2, 2, 0, false);
        x.board(1, 3, 3, 0, false);
        x.board(2, 0, 4, 0, false);
        x.board(2, 0, 5, 0, false);
        x.judge(0, NONE, 0);
        int[] points = {50, 70, 60, 70, 40};
        for (int board = 0; board < points.length; board++) {
            x.mark(0, board, points[board], board);
        }
        return x;
    }

    private static void places(String what, FairHall x, int prize, int day, int... boards) {
        for (int k = 0; k < boards.length; k++) {
            C.due(what + ", place " + k, x, x.given(prize, k, day), boards[k], 0);
        }
        C.dueNone(what + ", behind the last place", x, x.given(prize, boards.length, day), 1);
    }

    private static void given() {
        FairHall x = six();
        Check.prizes(x, "prize best 24; prize best 2; prize best 1;");
        places("all", x, 0, 9, 1, 3, 2, 0, 4);
        places("the best two", x, 1, 9, 1, 3);
        places("the best one", x, 2, 9, 1);
        places("as known on day 0", x, 0, 0, 0);
        places("as known on day 2", x, 0, 2, 1, 2, 0);
        x.lose(1, 9);
        places("a lost mark", x, 0, 9, 3, 2, 0, 4);
        places("ahead of the loss", x, 0, 8, 1, 3, 2, 0, 4);
    }

    private static void givenByWishes() {
        FairHall x = six();
        Check.prizes(x, "prize field 0 best 9; prize age 0 best 9; prize school 3 best 9;"
                + "prize field 1 age 1 best 9; prize seen 2 best 9; prize seen 1 field 7 best 1;");
        places("field 0", x, 0, 9, 2, 0);
        places("age 0", x, 1, 9, 0, 4);
        places("school 3", x, 2, 9, 3);
        places("field 1 and age 1", x, 3, 9, 1);
        places("seen 2", x, 4, 9);
        places("field 7", x, 5, 9);
        x.judge(0, NONE, 0);
        x.mark(1, 2, 60, 9);
        places("seen 2 with a second mark", x, 4, 9, 2);
        places("seen 2 ahead of it", x, 4, 8);
        x.mark(0, 4, 41, 9);
        places("two marks of one judge are one", x, 4, 9, 2);
    }

    private static void givenAlone() {
        FairHall x = six();
        Check.prizes(x, "prize field 1 best 1; prize best 2 alone; prize best 2; prize best 9 alone;"
                + "prize best 1 alone;");
        places("the first one", x, 0, 9, 1);
        places("alone: not the one that has it", x, 1, 9, 3, 2);
        places("not alone: as if there were none", x, 2, 9, 1, 3);
        places("alone: all that have none", x, 3, 9, 0, 4);
        places("alone: none is left", x, 4, 9);
    }

    private static void givenByFair() {
        // Judge 1 is 20 harder than judge 0: 60 of it stands ahead of 75 of judge 0.
        FairHall x = new FairHall();
        for (int i = 0; i < 4; i++) {
            x.board(0, 0, 0, 0, false);
        }
        x.judge(0, NONE, 0);
        x.judge(0, NONE, 0);
        x.mark(0, 0, 50, 0);
        x.mark(1, 0, 30, 0);
        x.mark(0, 1, 75, 0);
        x.mark(1, 2, 60, 0);
        x.mark(1, 3, 55, 0);
        Check.prizes(x, "prize best 4;");
        // Fair 40, 65, 70, 65.
        places("by fair", x, 0, 0, 2, 1, 3, 0);
    }

    private static void givenAcrossHeaps() {
        // Thirds beside halves, and like ones of two heaps.
        FairHall x = new FairHall();
        for (int i = 0; i < 4; i++) {
            x.board(0, 0, 0, 0, false);
        }
        for (int i = 0; i < 7; i++) {
            x.judge(0, NONE, 0);
        }
        x.mark(0, 0, 1, 0);
        x.mark(1, 0, 0, 0);
        x.mark(2, 0, 0, 0);
        x.mark(3, 1, 1, 0);
        x.mark(4, 1, 0, 0);
        x.mark(5, 2, 0, 0);
        x.mark(6, 3, 0, 0);
        Check.prizes(x, "prize best 4;");
        // 1/3, 1/2, 0, 0.
        places("across heaps", x, 0, 0, 1, 0, 2, 3);
    }

    private static void givenRefused() {
        FairHall x = six();
        Check.prizes(x, "prize best 2;");
        C.dueNone("prize -1", x, x.given(-1, 0, 9), 1);
        C.dueNone("prize 1", x, x.given(1, 0, 1000), 1);
        C.dueNone("k -1", x, x.given(0, -1, 9), 1);
        C.dueNone("k -1 on no day", x, x.given(0, -1, 1000), 1);
        C.dueNone("k 2", x, x.given(0, 2, 9), 1);
        C.dueNone("k far away", x, x.given(0, Integer.MAX_VALUE, 9), 1);
        C.dueNone("day 1000", x, x.given(0, 0, 1000), 2);
        C.dueNone("day -1", x, x.given(0, 0, -1), 2);
        // A great heap around another board than the prize wishes for.
        Check.prizes(x, "prize field 0 best 2;");
        for (int judge = 1; judge < 7; judge++) {
            x.judge(0, NONE, 0);
            x.mark(judge, 5, 50, 20);
        }
        C.dueNone("a great heap", x, x.given(0, 0, 20), 9);
        C.dueNone("no such prize, and a great heap", x, x.given(1, 0, 20), 1);
        C.dueNone("k -1, and a great heap", x, x.given(0, -1, 20), 1);
        C.due("ahead of the great heap", x, x.given(0, 0, 19), 2, 0);
    }
}
