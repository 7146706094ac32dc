/** Promises 23 to 26: halls, and boards laid into them. */
public final class HallsTest {
    private static final Check C = new Check("HallsTest");

    public static void main(String[] args) {
        hall();
        clear();
        laid();
        goingBack();
        limitsOfAHall();
        tries();
        spent();
        C.finish();
    }

    private static void hall() {
        FairHall x = new FairHall();
        C.dueNone("places 25", x, x.hall(25, 0, 0), 2);
        C.dueNone("places -1", x, x.hall(-1, 0, 0), 2);
        C.dueNone("power 1000", x, x.hall(0, 1000, 0), 2);
        C.dueNone("power -1", x, x.hall(0, -1, 0), 2);
        C.dueNone("water 25", x, x.hall(0, 0, 25), 2);
        C.dueNone("water -1", x, x.hall(0, 0, -1), 2);
        for (int i = 0; i < 4; i++) {
            C.due("hall " + i, x, x.hall(24, 999, 24), i, 0);
        }
        C.dueNone("a hall too many", x, x.hall(0, 0, 0), 3);
        C.dueNone("a wrong one too many", x, x.hall(25, 0, 0), 2);
    }

    private static void clear() {
        FairHall x = new FairHall();
        C.due("clear without halls", x, x.clear(), 0);
        x.board(0, 0, 0, 1, false);
        x.hall(1, 1, 1);
        C.due("laid", x, x.laid(0), 0, 0);
        C.due("clear", x, x.clear(), 0);
        C.dueNone("laid without halls", x, x.laid(0), 8);
        C.dueNone("tries without halls", x, x.tries(), 8);
        C.due("halls are numbered anew", x, x.hall(0, 0, 0), 0, 0);
        C.due("a second one", x, x.hall(1, 1, 0), 1, 0);
        C.due("laid into the second one", x, x.laid(0), 1, 0);
    }

    private static void laid() {
        FairHall x = new FairHall();
        C.dueNone("no boards", x, x.laid(0), 1);
        C.due("tries without boards", x, x.tries(), 0, 0);
        x.board(0, 0, 0, 0, false);
        C.dueNone("board -1", x, x.laid(-1), 1);
        C.dueNone("no such board, and no hall", x, x.laid(1), 1);
        C.dueNone("no hall", x, x.laid(0), 8);
        x.hall(1, 0, 0);
        C.due("laid(0)", x, x.laid(0), 0, 0);
        x.board(0, 0, 0, 0, false);
        C.dueNone("no place for both", x, x.laid(0), 8);
        C.dueNone("no such board ahead of no place", x, x.laid(2), 1);
        x.hall(1, 0, 0);
        C.due("laid(0) with two halls", x, x.laid(0), 0, 0);
        C.due("laid(1) with two halls", x, x.laid(1), 1, 0);
    }

    /** Board 0 fits the first hall, but then nothing bears board 1. */
    private static void goingBack() {
        FairHall x = new FairHall();
        x.board(0, 0, 0, 4, false);
        x.board(0, 0, 0, 9, false);
        x.hall(1, 10, 0);
        x.hall(1, 5, 0);
        C.due("laid(0)", x, x.laid(0), 1, 0);
        C.due("laid(1)", x, x.laid(1), 0, 0);
        // 0 into 0; 1 into 0 and 1, neither; 0 into 1; 1 into 0.
        C.due("tries()", x, x.tries(), 5, 0);
        // The last two of 24 boards go back too: 22 into 0; 23 into 0 and 1, neither; 22 into 1; 23 into 0.
        FairHall y = new FairHall();
        for (int i = 0; i < 22; i++) {
            y.board(0, 0, 0, 0, false);
        }
        y.board(0, 0, 0, 1, false);
        y.board(0, 0, 0, 9, false);
        y.hall(24, 9, 0);
        y.hall(24, 1, 0);
        C.due("laid(22)", y, y.laid(22), 1, 0);
        C.due("laid(23)", y, y.laid(23), 0, 0);
        C.due("tries() of 24", y, y.tries(), 27, 0);
    }

    private static void limitsOfAHall() {
        FairHall x = new FairHall();
        x.board(0, 0, 0, 50, true);
        x.board(0, 0, 0, 50, true);
        x.hall(2, 100, 2);
        C.due("borne to the full", x, x.laid(1), 0, 0);
        x.clear();
        x.hall(1, 100, 2);
        C.dueNone("too few places", x, x.laid(1), 8);
        x.clear();
        x.hall(2, 99, 2);
        C.dueNone("too little power", x, x.laid(1), 8);
        x.clear();
        x.hall(2, 100, 1);
        C.dueNone("too little water", x, x.laid(1), 8);
        x.hall(1, 50, 1);
        C.due("a second hall", x, x.laid(1), 1, 0);
        // A board without water takes none.
        x.clear();
        x.hall(3, 100, 2);
        x.board(0, 0, 0, 0, false);
        C.due("dry", x, x.laid(2), 0, 0);
    }

    private static void tries() {
        FairHall x = new FairHall();
        for (int i = 0; i < 24; i++) {
            x.board(0, 0, 0, 1, false);
        }
        for (int i = 0; i < 4; i++) {
            x.hall(6, 6, 0);
        }
        // Six boards in each hall: 1 try each in hall 0, 2 in hall 1, and so on.
        C.due("tries()", x, x.tries(), 60, 0);
        for (int i = 0; i < 24; i++) {
            C.due("laid(" + i + ")", x, x.laid(i), i / 6, 0);
        }
        x.clear();
        x.hall(23, 999, 0);
        C.dueNone("tries where they can't be laid", x, x.tries(), 8);
    }

    /** Two halls that never bear the last board: with those ahead of it 2 + 4 + 8 + .. tries. */
    private static void spent() {
        for (int ahead = 10; ahead <= 16; ahead++) {
            FairHall x = new FairHall();
            for (int i = 0; i < ahead; i++) {
                x.board(0, 0, 0, 0, false);
            }
            x.board(0, 0, 0, 9, false);
            x.hall(24, 8, 0);
            x.hall(24, 8, 0);
            int all = (1 << (ahead + 2)) - 2;
            int status = all > 20000 ? 10 : 8;
            C.dueNone("laid behind " + all + " tries", x, x.laid(0), status);
            C.dueNone("tries behind " + all + " tries", x, x.tries(), status);
            C.dueNone("laid once more", x, x.laid(ahead), status);
            C.dueNone("no such board", x, x.laid(ahead + 1), 1);
            x.hall(1, 9, 0);
            C.due("a hall for the last one", x, x.laid(ahead), 2, 0);
        }
        edge();
    }

    /** The edge of 20,000 tries exactly, by powers that were searched for it. */
    private static void edge() {
        FairHall x = powers(new int[] {15, 10, 7, 19, 11, 14, 13, 20, 15, 17, 12, 15}, new int[] {28, 52, 41, 47});
        C.due("tries() just below the edge", x, x.tries(), 19991, 0);
        for (int tries = 19992; tries <= 20000; tries++) {
            x.board(0, 0, 0, 0, false);
            C.due("a board more, a try more", x, x.tries(), tries, 0);
        }
        C.due("laid on the edge", x, x.laid(20), 0, 0);
        x.board(0, 0, 0, 0, false);
        C.dueNone("tries() behind the edge", x, x.tries(), 10);
        C.dueNone("laid behind the edge", x, x.laid(0), 10);
        FairHall y = powers(new int[] {12, 15, 5, 12, 18, 11, 8, 10, 20, 8, 17, 11}, new int[] {56, 40, 2, 30});
        C.dueNone("all 20,000 tries fail", y, y.tries(), 8);
        FairHall z = powers(new int[] {16, 14, 12, 15, 10, 16, 18, 8, 4, 12, 12}, new int[] {35, 47, 55});
        C.dueNone("20,001 tries would fail", z, z.tries(), 10);
    }

    private static FairHall powers(int[] boards, int[] halls) {
        FairHall x = new FairHall();
        for (int power : boards) {
            x.board(0, 0, 0, power, false);
        }
        for (int power : halls) {
            x.hall(24, power, 0);
        }
        return x;
    }
}
