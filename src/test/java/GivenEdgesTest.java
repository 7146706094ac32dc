/** Part 3, from GIVEN on, and promise 22 at their boundaries: a method for each sentence that names one. */
public final class GivenEdgesTest {
    private static final int NONE = FairHall.NONE;
    private static final int MIN = Integer.MIN_VALUE;
    private static final int MAX = Integer.MAX_VALUE;
    private static final Check C = new Check("GivenEdgesTest");

    public static void main(String[] args) {
        prizeOfANumber();
        placeFrom0On();
        asKnownOnADay();
        noPlaceAheadOfNoDay();
        behindTheLastPlaceOnNoSuchDay();
        greatIsAnyHeap();
        noPrizeAheadOfGreat();
        boardsWithMarksThatCount();
        bestFrom1To24();
        ofLikeOnesTheLesserNumber();
        likeOnesOfTwoHeaps();
        nearOnesOfTwoHeaps();
        quartersBesideFifths();
        bestByFair();
        fieldWish();
        ageWish();
        schoolWish();
        seenAtLeast();
        seenIs1IfNotTold();
        allWishes();
        aloneHaveNoneSoFar();
        aloneByPrizesAhead();
        prizeByPrize();
        givenAnewForEachDay();
        C.finish();
    }

    /** Boards marked so by one judge. */
    private static FairHall marked(int... marks) {
        FairHall x = new FairHall();
        x.judge(1, NONE, 0);
        for (int board = 0; board < marks.length; board++) {
            x.board(0, 0, 0, 0, false);
            x.mark(0, board, marks[board], 0);
        }
        return x;
    }

    private static void places(String what, FairHall x, int prize, int day, int... boards) {
        for (int k = 0; k < boards.length; k++) {
            C.due(what + ", place " + k, x, x.given(prize, k, day), boards[k], 0);
        }
        C.dueNone(what + ", behind the last place", x, x.given(prize, boards.length, day), 1);
    }

    // Promise 22: "The PRIZE of a number, as known on a DAY: which BOARD has place k of it, from 0 on (1: also k; 2;
    // 9: any HEAP)."

    private static void prizeOfANumber() {
        FairHall x = marked(5);
        Check.prizes(x, "prize best 1;".repeat(8));
        C.range("given, prize of 8", 0, 7, 1, prize -> C.statusOf(x, x.given(prize, 0, 0)));
        Check.prizes(x, "prize best 1;");
        C.range("given, prize of 1", 0, 0, 1, prize -> C.statusOf(x, x.given(prize, 0, 0)));
        x.prizes(0);
        C.dueNone("given, no prizes", x, x.given(0, 0, 0), 1);
    }

    private static void placeFrom0On() {
        FairHall x = marked(5, 6, 7, 8);
        Check.prizes(x, "prize best 3; prize best 24;");
        C.range("given, place of 3", 0, 2, 1, k -> C.statusOf(x, x.given(0, k, 0)));
        C.range("given, place of 4 boards", 0, 3, 1, k -> C.statusOf(x, x.given(1, k, 0)));
        C.dueNone("place 23 of 4 boards", x, x.given(1, 23, 0), 1);
        C.dueNone("place 24 of 4 boards", x, x.given(1, 24, 0), 1);
    }

    private static void asKnownOnADay() {
        FairHall x = marked(5);
        Check.prizes(x, "prize best 1;");
        C.range("given, day", 0, 999, 2, day -> C.statusOf(x, x.given(0, 0, day)));
    }

    private static void noPlaceAheadOfNoDay() {
        FairHall x = marked(5);
        Check.prizes(x, "prize best 1;");
        C.dueNone("no such prize on no such day", x, x.given(1, 0, 1000), 1);
        C.dueNone("no such prize below 0 on no such day", x, x.given(-1, 0, -1), 1);
        C.dueNone("a place below 0 on no such day", x, x.given(0, -1, 1000), 1);
        C.dueNone("the least place on no such day", x, x.given(0, MIN, MIN), 1);
        C.dueNone("a place that is there, on no such day", x, x.given(0, 0, 1000), 2);
        C.dueNone("nothing that is there", x, x.given(MAX, MIN, MAX), 1);
    }

    /** How many places there are is known on a day alone, and by fair: without these 2 and 9 are told, not 1. */
    private static void behindTheLastPlaceOnNoSuchDay() {
        FairHall x = marked(5);
        Check.prizes(x, "prize best 1;");
        C.dueNone("behind the last place", x, x.given(0, 1, 0), 1);
        C.dueNone("behind the last place on no such day", x, x.given(0, 1, 1000), 2);
        for (int judge = 1; judge <= 5; judge++) {
            x.judge(0, 0, 0);
            x.mark(judge, 0, 50, 9);
        }
        C.dueNone("behind the last place on the day ahead of a great heap", x, x.given(0, 1, 8), 1);
        C.dueNone("behind the last place with a great heap", x, x.given(0, 1, 9), 9);
    }

    private static void greatIsAnyHeap() {
        FairHall x = marked(5, 6);
        Check.prizes(x, "prize field 0 best 1;");
        x.board(7, 0, 0, 0, false);
        for (int judge = 1; judge <= 6; judge++) {
            x.judge(0, 0, 0);
            x.mark(judge, 2, 50, judge);
        }
        C.due("a heap of one beside one of five", x, x.given(0, 0, 5), 1, 0);
        C.dueNone("beside one of six, which the prize does not wish for", x, x.given(0, 0, 6), 9);
        C.dueNone("on the last day", x, x.given(0, 0, 999), 9);
        x.lose(2 + 5, 8);
        C.dueNone("the day ahead of a loss", x, x.given(0, 0, 7), 9);
        C.due("five are left", x, x.given(0, 0, 8), 1, 0);
        // Two heaps of five each are not great; judge 0 is 36 below the mean 41 of board 0, so board 1 has 6 + 36.
        for (int judge = 7; judge <= 10; judge++) {
            x.judge(0, 0, 0);
            x.mark(judge, 0, 50, 20);
        }
        C.due("two heaps of five", x, x.given(0, 0, 20), 1, 0);
    }

    private static void noPrizeAheadOfGreat() {
        FairHall x = marked(5);
        Check.prizes(x, "prize best 1;");
        for (int judge = 1; judge <= 5; judge++) {
            x.judge(0, 0, 0);
            x.mark(judge, 0, 50, 0);
        }
        C.dueNone("great", x, x.given(0, 0, 0), 9);
        C.dueNone("no such prize", x, x.given(1, 0, 0), 1);
        C.dueNone("a place below 0", x, x.given(0, -1, 0), 1);
        C.dueNone("no such day", x, x.given(0, 0, 1000), 2);
    }

    // Part 3: "GIVEN as known on a DAY, PRIZE by PRIZE: to the BOARDS (with MARKS that count) that are as its WISHES
    // say, and, if alone, have none so far: the best by FAIR, so many, of like ones the lesser number ahead."

    private static void boardsWithMarksThatCount() {
        FairHall x = new FairHall();
        x.judge(0, 0, 0);
        for (int board = 0; board < 3; board++) {
            x.board(0, 0, 0, 0, false);
        }
        Check.prizes(x, "prize best 24;");
        places("no marks", x, 0, 0);
        x.mark(0, 1, 0, 5);
        x.mark(0, 2, 100, 7);
        x.lose(1, 9);
        places("ahead of both", x, 0, 4);
        places("a mark of 0 counts", x, 0, 5, 1);
        places("both", x, 0, 7, 2, 1);
        places("the day ahead of the loss", x, 0, 8, 2, 1);
        places("one is lost", x, 0, 9, 1);
    }

    private static void bestFrom1To24() {
        int[] marks = new int[24];
        for (int board = 0; board < 24; board++) {
            marks[board] = 4 * board;
        }
        FairHall x = marked(marks);
        Check.prizes(x, "prize best 1; prize best 2; prize best 23; prize best 24;");
        places("the best", x, 0, 0, 23);
        places("the best two", x, 1, 0, 23, 22);
        C.due("the last of 23", x, x.given(2, 22, 0), 1, 0);
        C.dueNone("behind the last of 23", x, x.given(2, 23, 0), 1);
        for (int k = 0; k < 24; k++) {
            C.due("place " + k + " of 24", x, x.given(3, k, 0), 23 - k, 0);
        }
        C.dueNone("behind the last of 24", x, x.given(3, 24, 0), 1);
    }

    private static void ofLikeOnesTheLesserNumber() {
        FairHall x = marked(50, 60, 50, 60, 50);
        Check.prizes(x, "prize best 24; prize best 1; prize best 3; prize best 1 alone; prize best 24 alone;");
        places("all", x, 0, 0, 1, 3, 0, 2, 4);
        places("one of two like ones", x, 1, 0, 1);
        places("two and one of three like ones", x, 2, 0, 1, 3, 0);
        FairHall y = marked(new int[24]);
        Check.prizes(y, "prize best 24;");
        for (int k = 0; k < 24; k++) {
            C.due("place " + k + " of 24 like ones", y, y.given(0, k, 0), k, 0);
        }
    }

    /** One and a half by two judges, by one that is half too hard, and by four: all are like. */
    private static void likeOnesOfTwoHeaps() {
        FairHall x = new FairHall();
        for (int i = 0; i < 4; i++) {
            x.board(0, 0, 0, 0, false);
        }
        for (int i = 0; i < 7; i++) {
            x.judge(0, 0, 0);
        }
        int[] four = {0, 0, 3, 3};
        for (int i = 0; i < 4; i++) {
            x.mark(i, 3, four[i], 0);
        }
        x.mark(4, 0, 2, 0);
        x.mark(5, 0, 1, 0);
        x.mark(4, 1, 2, 0);
        x.mark(6, 2, 2, 0);
        Check.prizes(x, "prize best 4;");
        C.dueFraction("fair(0)", x, x.fair(0, 0), 3, 2);
        C.dueFraction("fair(1)", x, x.fair(1, 0), 3, 2);
        C.dueFraction("fair(2)", x, x.fair(2, 0), 2, 1);
        C.dueFraction("fair(3)", x, x.fair(3, 0), 3, 2);
        places("like ones of two heaps", x, 0, 0, 2, 0, 1, 3);
    }

    /** A third, two fifths, a half, 0 and 1 above the least, of judges that share nothing. */
    private static void nearOnesOfTwoHeaps() {
        for (int least : new int[] {0, 1, 50, 99}) {
            FairHall x = new FairHall();
            for (int i = 0; i < 5; i++) {
                x.board(0, 0, 0, 0, false);
            }
            for (int i = 0; i < 12; i++) {
                x.judge(0, 0, 0);
            }
            int[][] marks = {{1, 0, 0}, {1, 1, 0, 0, 0}, {1, 0}, {0}, {1}};
            int judge = 0;
            for (int board = 0; board < marks.length; board++) {
                for (int mark : marks[board]) {
                    x.mark(judge, board, least + mark, 0);
                    judge++;
                }
            }
            Check.prizes(x, "prize best 5;");
            places("near ones above " + least, x, 0, 0, 4, 2, 1, 0, 3);
        }
    }

    /** Two boards, of four judges and of five: all means that can be, quarters beside fifths. */
    private static void quartersBesideFifths() {
        for (int four = 0; four <= 12; four++) {
            for (int five = 0; five <= 15; five++) {
                FairHall x = new FairHall();
                x.board(0, 0, 0, 0, false);
                x.board(0, 0, 0, 0, false);
                for (int judge = 0; judge < 9; judge++) {
                    x.judge(0, 0, 0);
                    int share = judge < 4 ? (four + judge) / 4 : (five + judge - 4) / 5;
                    x.mark(judge, judge < 4 ? 0 : 1, share, 0);
                }
                Check.prizes(x, "prize best 2;");
                int best = 5 * four >= 4 * five ? 0 : 1;
                places(four + " quarters beside " + five + " fifths", x, 0, 0, best, 1 - best);
            }
        }
    }

    private static void bestByFair() {
        // Judge 0 gives 40 more than judge 1: 50 of judge 1 stands ahead of 80 of judge 0.
        FairHall x = new FairHall();
        for (int i = 0; i < 3; i++) {
            x.board(0, 0, 0, 0, false);
        }
        x.judge(0, 0, 0);
        x.judge(0, 0, 0);
        x.mark(0, 0, 60, 0);
        x.mark(1, 0, 20, 0);
        x.mark(0, 1, 80, 0);
        x.mark(1, 2, 50, 0);
        Check.prizes(x, "prize best 3;");
        places("by fair", x, 0, 0, 2, 1, 0);
        // Below 0 too: -20 is ahead of -40.
        FairHall y = new FairHall();
        for (int i = 0; i < 3; i++) {
            y.board(0, 0, 0, 0, false);
        }
        y.judge(0, 0, 0);
        y.judge(0, 0, 0);
        y.mark(0, 2, 100, 0);
        y.mark(1, 2, 0, 0);
        y.mark(0, 0, 10, 0);
        y.mark(0, 1, 30, 0);
        Check.prizes(y, "prize best 3;");
        places("below 0", y, 0, 0, 2, 1, 0);
    }

    private static FairHall traits() {
        FairHall x = new FairHall();
        x.judge(0, 0, 0);
        for (int board = 0; board < 16; board++) {
            x.board(board % 8, board / 2 % 4, board, 0, false);
            x.mark(0, board, board, 0);
        }
        return x;
    }

    private static void fieldWish() {
        FairHall x = traits();
        for (int field = 0; field < 8; field++) {
            Check.prizes(x, "prize field " + field + " best 24;");
            places("field " + field, x, 0, 0, field + 8, field);
        }
    }

    private static void ageWish() {
        FairHall x = traits();
        for (int age = 0; age < 4; age++) {
            Check.prizes(x, "prize age " + age + " best 24;");
            places("age " + age, x, 0, 0, 2 * age + 9, 2 * age + 8, 2 * age + 1, 2 * age);
        }
    }

    private static void schoolWish() {
        FairHall x = traits();
        for (int school = 0; school < 16; school++) {
            Check.prizes(x, "prize school " + school + " best 24;");
            places("school " + school, x, 0, 0, school);
        }
    }

    // Part 3: "seen 1 to 12 (so many MARKS count at least; 1 if it isn't told)"

    private static void seenAtLeast() {
        FairHall x = new FairHall();
        for (int board = 0; board < 6; board++) {
            x.board(0, 0, 0, 0, false);
        }
        for (int judge = 0; judge < 12; judge++) {
            x.judge(0, 0, 0);
        }
        // Board b has b marks, all of them alike.
        for (int board = 1; board < 6; board++) {
            for (int judge = 0; judge < board; judge++) {
                x.mark(judge, board, 50, 0);
                x.mark(judge, board, 50, 0);
            }
        }
        int[][] want = {{}, {1, 2, 3, 4, 5}, {2, 3, 4, 5}, {3, 4, 5}, {4, 5}, {5}, {}};
        for (int seen = 1; seen <= 6; seen++) {
            Check.prizes(x, "prize seen " + seen + " best 24;");
            places("seen " + seen, x, 0, 0, want[seen]);
        }
        Check.prizes(x, "prize seen 12 best 24;");
        places("seen 12", x, 0, 0);
        // With six and more marks for a board its heap is great: seen 12 can never be met.
        for (int judge = 0; judge < 12; judge++) {
            x.mark(judge, 0, 50, 1);
        }
        C.dueNone("seen by 12", x, x.given(0, 0, 1), 9);
    }

    private static void seenIs1IfNotTold() {
        FairHall x = new FairHall();
        x.board(0, 0, 0, 0, false);
        x.board(0, 0, 0, 0, false);
        x.judge(0, 0, 0);
        x.mark(0, 1, 0, 0);
        Check.prizes(x, "prize best 24; prize seen 1 best 24;");
        places("seen is not told", x, 0, 0, 1);
        places("seen 1", x, 1, 0, 1);
    }

    private static void allWishes() {
        FairHall x = traits();
        x.judge(0, 0, 0);
        x.mark(1, 10, 10, 1);
        Check.prizes(x, "prize field 2 age 1 school 10 seen 2 best 24; prize field 2 age 1 best 24;"
                + "prize field 2 age 2 best 24; prize school 10 field 3 best 24; prize age 1 school 10 best 24;");
        places("all four, ahead of the second mark", x, 0, 0);
        places("all four", x, 0, 1, 10);
        places("field 2 and age 1", x, 1, 1, 10, 2);
        places("field 2 and age 2", x, 2, 1);
        places("school 10 and field 3", x, 3, 1);
        places("age 1 and school 10", x, 4, 1, 10);
    }

    private static void aloneHaveNoneSoFar() {
        FairHall x = marked(40, 30, 20, 10);
        Check.prizes(x, "prize best 1 alone; prize best 1 alone; prize best 24 alone; prize best 1 alone;");
        places("the first alone: none has one so far", x, 0, 0, 0);
        places("the second alone", x, 1, 0, 1);
        places("the third alone: all the others", x, 2, 0, 2, 3);
        places("the fourth alone: none is left", x, 3, 0);
    }

    private static void aloneByPrizesAhead() {
        FairHall x = marked(40, 30, 20, 10);
        Check.prizes(x, "prize best 1 alone; prize best 2; prize best 1 alone; prize best 4; prize best 4 alone;");
        places("alone", x, 0, 0, 0);
        places("not alone: to one that has one, too", x, 1, 0, 0, 1);
        places("alone, behind one that is not", x, 2, 0, 2);
        places("not alone: to all", x, 3, 0, 0, 1, 2, 3);
        places("alone, behind all", x, 4, 0);
    }

    private static void prizeByPrize() {
        FairHall x = marked(40, 30, 20);
        Check.prizes(x, "prize best 1 alone; prize best 3;");
        places("later prizes do not count", x, 0, 0, 0);
        places("the last first", x, 1, 0, 0, 1, 2);
        places("the first once more", x, 0, 0, 0);
        Check.prizes(x, "prize best 3; prize best 1 alone;");
        places("the other way round", x, 1, 0);
    }

    private static void givenAnewForEachDay() {
        FairHall x = marked(40, 30, 20);
        x.mark(0, 2, 100, 500);
        Check.prizes(x, "prize best 1; prize best 1 alone;");
        places("ahead of the mark", x, 0, 499, 0);
        places("alone, ahead of the mark", x, 1, 499, 1);
        places("on its day", x, 0, 500, 2);
        places("alone, on its day", x, 1, 500, 0);
        places("ahead of the mark, once more", x, 1, 499, 1);
    }
}
