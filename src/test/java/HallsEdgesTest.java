/** Part 4 and promises 23 to 26 at their boundaries: a method for each sentence that names one. */
public final class HallsEdgesTest {
    private static final Check C = new Check("HallsEdgesTest");

    public static void main(String[] args) {
        hallsAtMost4();
        hallsNumberedAsTheyCome();
        placesFrom0To24();
        powerFrom0To999();
        waterFrom0To24();
        placesBorne();
        powerBorne();
        waterBorne();
        dryBoardsTakeNoWater();
        allHallsAreGone();
        clearWithoutHalls();
        laidOfSuchABoard();
        noBoards();
        noHalls();
        cannotBeLaid();
        eachBoardHasAHall();
        leastHallWithWhichThoseBehindCanBeLaid();
        eachHallTriedIsATry();
        triesOfOneBoard();
        laidAnewBehindAChange();
        spentBehind20000();
        spentWhereNoneCanBeLaid();
        C.finish();
    }

    private static FairHall boards(int many, int power, boolean water) {
        FairHall x = new FairHall();
        for (int i = 0; i < many; i++) {
            x.board(0, 0, 0, power, water);
        }
        return x;
    }

    private static FairHall powers(int[] boards, int[] halls) {
        FairHall x = new FairHall();
        for (int power : boards) {
            x.board(0, 0, 0, power, false);
        }
        for (int power : halls) {
            x.hall(24, power, 0);
        }
        return x;
    }

    private static void dueLaid(String what, FairHall x, int tries, int... halls) {
        C.due(what + ": tries()", x, x.tries(), tries, 0);
        for (int board = 0; board < halls.length; board++) {
            C.due(what + ": laid(" + board + ")", x, x.laid(board), halls[board], 0);
        }
    }

    private static void dueNotLaid(String what, FairHall x, int status) {
        C.dueNone(what + ": laid(0)", x, x.laid(0), status);
        C.dueNone(what + ": tries()", x, x.tries(), status);
    }

    // Part 4: "HALLS, at most 4, numbered as they come: PLACES 0 to 24, POWER 0 to 999, WATER 0 to 24 (so many BOARDS
    // with it)."

    private static void hallsAtMost4() {
        FairHall x = boards(5, 1, false);
        for (int hall = 0; hall < 4; hall++) {
            C.due("hall " + hall, x, x.hall(1, 1, 0), hall, 0);
        }
        C.dueNone("hall 5 of 4", x, x.hall(24, 999, 24), 3);
        C.dueNone("hall 6 of 4", x, x.hall(24, 999, 24), 3);
        dueNotLaid("the one too many bears nothing", x, 8);
        x.clear();
        C.due("the first one anew", x, x.hall(24, 999, 24), 0, 0);
    }

    private static void hallsNumberedAsTheyCome() {
        FairHall x = boards(2, 5, false);
        C.due("the first", x, x.hall(1, 4, 0), 0, 0);
        C.dueNone("a refused one", x, x.hall(25, 0, 0), 2);
        C.due("a refused one has no number", x, x.hall(1, 5, 0), 1, 0);
        C.due("the third", x, x.hall(1, 6, 0), 2, 0);
        dueLaid("into the second and third", x, 5, 1, 2);
    }

    private static int taken(int places, int power, int water) {
        FairHall x = new FairHall();
        int status = C.statusOf(x, x.hall(places, power, water));
        C.due("the next hall's number", x.hall(0, 0, 0), status == 0 ? 1 : 0);
        return status;
    }

    private static void placesFrom0To24() {
        C.range("places", 0, 24, 2, places -> taken(places, 1, 1));
    }

    private static void powerFrom0To999() {
        C.range("power of a hall", 0, 999, 2, power -> taken(1, power, 1));
    }

    private static void waterFrom0To24() {
        C.range("water of a hall", 0, 24, 2, water -> taken(1, 1, water));
    }

    // Part 4: "LAID: each BOARD has a HALL, none with more than it bears"

    private static void placesBorne() {
        for (int places : new int[] {0, 1, 2, 23, 24}) {
            for (int boards = Math.max(1, places - 1); boards <= Math.min(24, places + 1); boards++) {
                FairHall x = boards(boards, 0, false);
                x.hall(places, 999, 24);
                boolean can = boards <= places;
                C.due(boards + " boards, " + places + " places", x, x.tries(), can ? boards : -1, can ? 0 : 8);
            }
        }
    }

    private static void powerBorne() {
        for (int power : new int[] {0, 1, 98, 99}) {
            for (int hall = Math.max(0, power - 1); hall <= power + 1; hall++) {
                FairHall x = boards(1, power, false);
                x.hall(24, hall, 24);
                C.due("power " + power + " in " + hall, x, x.laid(0), hall >= power ? 0 : -1, hall >= power ? 0 : 8);
            }
        }
        // Ten boards of 99 and one of 9 are 999.
        FairHall y = boards(10, 99, false);
        y.board(0, 0, 0, 9, false);
        y.hall(24, 998, 0);
        dueNotLaid("999 in 998", y, 8);
        y.clear();
        y.hall(24, 999, 0);
        dueLaid("999 in 999", y, 11, 0, 0, 0, 0, 0, 0, 0, 0, 0, 0, 0);
        y.board(0, 0, 0, 1, false);
        dueNotLaid("1000 in 999", y, 8);
    }

    private static void waterBorne() {
        for (int water : new int[] {0, 1, 2, 23, 24}) {
            for (int boards = Math.max(1, water - 1); boards <= Math.min(24, water + 1); boards++) {
                FairHall x = boards(boards, 0, true);
                x.hall(24, 0, water);
                boolean can = boards <= water;
                C.due(boards + " boards, water for " + water, x, x.tries(), can ? boards : -1, can ? 0 : 8);
            }
        }
    }

    private static void dryBoardsTakeNoWater() {
        FairHall x = boards(23, 0, false);
        x.board(0, 0, 0, 0, true);
        x.hall(24, 0, 0);
        dueNotLaid("23 dry ones and one with water, none in the hall", x, 8);
        x.clear();
        x.hall(24, 0, 1);
        C.due("water for one", x, x.laid(23), 0, 0);
    }

    // Promise 24: "All HALLS are gone."

    private static void allHallsAreGone() {
        FairHall x = boards(1, 0, false);
        for (int hall = 0; hall < 4; hall++) {
            x.hall(24, 999, 24);
        }
        C.due("laid", x, x.laid(0), 0, 0);
        C.due("clear()", x, x.clear(), 0);
        dueNotLaid("all are gone", x, 8);
        for (int hall = 0; hall < 4; hall++) {
            C.due("four more", x, x.hall(0, 0, 0), hall, 0);
        }
        dueNotLaid("nothing of the old ones", x, 8);
    }

    private static void clearWithoutHalls() {
        FairHall x = new FairHall();
        x.told(0, 0);
        C.due("clear() without halls", x, x.clear(), 0);
        C.due("clear() once more", x, x.clear(), 0);
        C.due("a hall behind it", x, x.hall(0, 0, 0), 0, 0);
    }

    // Promise 25: "The HALL of a BOARD as all are LAID (1; 8; 10)." Promise 26: "How many TRIES that takes (8; 10)."

    private static void laidOfSuchABoard() {
        FairHall x = boards(3, 0, false);
        x.hall(24, 0, 0);
        C.range("laid, board", 0, 2, 1, board -> C.statusOf(x, x.laid(board)));
        FairHall full = boards(24, 0, false);
        full.hall(24, 0, 0);
        C.range("laid, 24 boards", 0, 23, 1, board -> C.statusOf(full, full.laid(board)));
        x.clear();
        C.refusedOutside("no such board and no hall", 0, 2, 1, board -> C.statusOf(x, x.laid(board)));
    }

    private static void noBoards() {
        FairHall x = new FairHall();
        C.dueNone("no boards and no halls: laid(0)", x, x.laid(0), 1);
        C.due("no boards and no halls: tries()", x, x.tries(), 0, 0);
        x.hall(0, 0, 0);
        C.dueNone("no boards: laid(0)", x, x.laid(0), 1);
        C.due("no boards: tries()", x, x.tries(), 0, 0);
    }

    private static void noHalls() {
        for (int many : new int[] {1, 2, 23, 24}) {
            FairHall x = boards(many, 0, false);
            dueNotLaid("no halls for " + many, x, 8);
            C.dueNone("the last of " + many, x, x.laid(many - 1), 8);
            C.dueNone("one behind the last of " + many, x, x.laid(many), 1);
        }
    }

    private static void cannotBeLaid() {
        FairHall x = boards(1, 5, true);
        x.hall(0, 999, 24);
        x.hall(24, 4, 24);
        x.hall(24, 999, 0);
        dueNotLaid("too few places, too little power, too little water", x, 8);
        x.hall(1, 5, 1);
        dueLaid("just enough of each", x, 4, 3);
    }

    /** One board that can't be laid, and none of the others is. */
    private static void eachBoardHasAHall() {
        FairHall x = boards(3, 0, false);
        x.hall(24, 0, 0);
        C.due("laid(0) of three", x, x.laid(0), 0, 0);
        x.board(0, 0, 0, 1, false);
        for (int board = 0; board < 4; board++) {
            C.dueNone("laid(" + board + ") of four", x, x.laid(board), 8);
        }
    }

    // Part 4: "the first: BOARD by BOARD the least HALL with which those behind can be laid. Tried one by one from
    // BOARD 0 on, HALL by HALL; each HALL tried is a TRY"

    private static void leastHallWithWhichThoseBehindCanBeLaid() {
        FairHall x = powers(new int[] {1, 1}, new int[] {5, 5});
        dueLaid("both into the least", x, 2, 0, 0);
        // Board 0 gives way to board 1, which only hall 0 bears.
        FairHall y = powers(new int[] {1, 5}, new int[] {5, 1});
        dueLaid("the first gives way", y, 5, 1, 0);
        // Board 2 needs hall 0 whole, so that boards 0 and 1 go on, each to the least hall that bears it.
        FairHall z = powers(new int[] {3, 4, 9}, new int[] {9, 4, 3});
        dueLaid("both give way", z, 24, 2, 1, 0);
    }

    private static void eachHallTriedIsATry() {
        FairHall x = boards(1, 0, false);
        x.hall(0, 0, 0);
        x.hall(0, 999, 24);
        x.hall(0, 999, 24);
        x.hall(1, 0, 0);
        dueLaid("halls that do not bear it are tried, too", x, 4, 3);
    }

    private static void triesOfOneBoard() {
        for (int hall = 1; hall <= 4; hall++) {
            FairHall x = boards(24, 1, false);
            for (int i = 1; i < hall; i++) {
                x.hall(24, 0, 24);
            }
            x.hall(24, 24, 0);
            C.due("24 boards into hall " + (hall - 1), x, x.tries(), 24 * hall, 0);
            C.due("the last one", x, x.laid(23), hall - 1, 0);
        }
    }

    private static void laidAnewBehindAChange() {
        FairHall x = boards(1, 5, false);
        x.hall(24, 4, 0);
        dueNotLaid("no hall bears it", x, 8);
        x.hall(24, 5, 0);
        dueLaid("a hall more", x, 2, 1);
        x.board(0, 0, 0, 4, false);
        dueLaid("a board more", x, 3, 1, 0);
        x.board(0, 0, 0, 0, false);
        dueLaid("and another", x, 4, 1, 0, 0);
        C.dueNone("a refused hall", x, x.hall(0, 1000, 0), 2);
        C.dueNone("a refused board", x, x.board(0, 0, 0, 100, false), 2);
        dueLaid("as it was", x, 4, 1, 0, 0);
        x.clear();
        x.hall(24, 9, 0);
        dueLaid("other halls, as many boards", x, 3, 0, 0, 0);
    }

    // Part 4: "where a TRY more than 20,000 would be, it is SPENT (10)."

    /** Counts without a bound, by recursion, whether the last board is borne or not. */
    private static int count(int[] boards, int board, int[] left, boolean[] found) {
        if (board == boards.length) {
            found[0] = true;
            return 0;
        }
        int tries = 0;
        for (int hall = 0; hall < left.length && !found[0]; hall++) {
            tries++;
            if (left[hall] >= boards[board]) {
                left[hall] -= boards[board];
                tries += count(boards, board + 1, left, found);
                left[hall] += boards[board];
            }
        }
        return tries;
    }

    private static void dueCount(String what, int[] boards, int[] halls, int tries, boolean laid) {
        boolean[] found = new boolean[1];
        C.due(what + ": counted", count(boards, 0, halls.clone(), found), tries);
        C.due(what + ": can be laid", found[0], laid);
        FairHall x = powers(boards, halls);
        int status = tries > 20000 ? 10 : laid ? 0 : 8;
        C.due(what + ": tries()", x, x.tries(), status == 0 ? tries : -1, status);
        C.due(what + ": status of laid(0)", C.statusOf(x, x.laid(0)), status);
        C.due(what + ": status of the last", C.statusOf(x, x.laid(boards.length - 1)), status);
        C.dueNone(what + ": no such board", x, x.laid(boards.length), 1);
        C.due(what + ": tries() once more", x, x.tries(), status == 0 ? tries : -1, status);
    }

    /** Powers that were searched for the number of tries; each board of power 0 behind them is a try more. */
    private static void spentBehind20000() {
        int[] boards = {15, 10, 7, 19, 11, 14, 13, 20, 15, 17, 12, 15};
        int[] halls = {28, 52, 41, 47};
        for (int more : new int[] {7, 8, 9, 10, 11}) {
            dueCount("19,991 tries and " + more, java.util.Arrays.copyOf(boards, 12 + more), halls, 19991 + more, true);
        }
    }

    private static void spentWhereNoneCanBeLaid() {
        int[] boards = {12, 15, 5, 12, 18, 11, 8, 10, 20, 8, 17, 11};
        dueCount("20,000 tries that fail", boards, new int[] {56, 40, 2, 30}, 20000, false);
        int[] others = {16, 14, 12, 15, 10, 16, 18, 8, 4, 12, 12};
        dueCount("20,001 tries that fail", others, new int[] {35, 47, 55}, 20001, false);
        // 24 boards and 4 halls: 4 + 16 + 64 .. tries; it ends at 20,000.
        FairHall x = boards(23, 0, false);
        x.board(0, 0, 0, 99, false);
        for (int hall = 0; hall < 4; hall++) {
            x.hall(24, 98, 24);
        }
        dueNotLaid("far more than 20,000 tries", x, 10);
        x.clear();
        x.hall(24, 98, 24);
        dueNotLaid("one hall: 24 tries that fail", x, 8);
        x.clear();
        x.hall(24, 99, 24);
        C.due("one hall that bears all", x, x.tries(), 24, 0);
    }
}
