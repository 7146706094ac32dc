/** Part 2 and promises 11 to 18 at their boundaries: a method for each sentence that names one. */
public final class MarksEdgesTest {
    private static final int NONE = FairHall.NONE;
    private static final Check C = new Check("MarksEdgesTest");

    public static void main(String[] args) {
        marksAtMost200();
        marksLostAreAmongThe200();
        judgeOfAMark();
        boardOfAMark();
        leastAndGreatestMark();
        dayOfAMark();
        planAndMayAreNotLookedAt();
        lostOfSuchAMark();
        lostOnADay();
        lostAlready();
        toldOnThatDayOrAhead();
        notLostOnItOrAhead();
        lostAheadOfTheDayItWasTold();
        latestByDay();
        latestByNumber();
        latestOfThoseThatCount();
        seenOfSuchABoard();
        seenOnADay();
        seenCountsJudges();
        heapOfSuchAJudge();
        heapOnADay();
        heapWithoutMarks();
        heapOfOneJudge();
        heapsJoinedByBoards();
        heapsJoinedByMarksThatCount();
        heapOfTwelve();
        hardnessOfSuchAJudge();
        hardnessOnADay();
        hardnessWithoutMarks();
        hardnessOfOneJudge();
        hardnessHasTheSum0();
        hardnessIsLeastSquares();
        moreThanFiveJudges();
        greatHeapAloneIsGreat();
        fairOfSuchABoard();
        fairOnADay();
        fairWithoutMarks();
        fairIsTheMean();
        fractionToldLatest();
        fractionStaysWhereRefused();
        fractionWithoutACommonDivisor();
        lowerAbove0();
        greatestFractions();
        C.finish();
    }

    private static FairHall fairOf(int boards, int judges) {
        FairHall x = new FairHall();
        for (int i = 0; i < boards; i++) {
            x.board(0, 0, 0, 0, false);
        }
        for (int i = 0; i < judges; i++) {
            x.judge(1, NONE, 24);
        }
        return x;
    }

    // Part 2: "MARKS, at most 200 in all: of a JUDGE for a BOARD 0 to 100, TOLD on a DAY (0 to 999)"

    private static FairHall with200() {
        FairHall x = fairOf(2, 2);
        for (int i = 0; i < 200; i++) {
            C.due("mark " + i, x, x.mark(0, 0, i % 101, i), i, 0);
        }
        return x;
    }

    private static void marksAtMost200() {
        FairHall x = with200();
        C.dueNone("mark 201 of 200", x, x.mark(1, 1, 50, 0), 3);
        C.dueNone("mark 202 of 200", x, x.mark(0, 0, 50, 999), 3);
        C.due("the one too many does not count", x, x.seen(1, 999), 0, 0);
        C.dueFraction("the last one counts", x, x.fair(0, 999), 199 % 101, 1);
        C.due("the one too many can't be lost", x, x.lose(200, 0), 1);
        C.due("the last one can", x, x.lose(199, 999), 0);
        C.dueFraction("the one ahead of it counts", x, x.fair(0, 999), 198 % 101, 1);
    }

    private static void marksLostAreAmongThe200() {
        FairHall x = with200();
        for (int i = 0; i < 200; i += 40) {
            x.lose(i, 0);
        }
        C.dueNone("a mark in place of lost ones", x, x.mark(1, 1, 50, 0), 3);
        FairHall y = fairOf(1, 1);
        C.dueNone("a refused mark", y, y.mark(0, 0, 101, 0), 2);
        C.due("it has no number", y, y.mark(0, 0, 100, 0), 0, 0);
    }

    private static void judgeOfAMark() {
        FairHall x = fairOf(1, 3);
        C.range("mark, judge", 0, 2, 1, judge -> C.statusOf(x, x.mark(judge, 0, 50, 0)));
        FairHall full = fairOf(24, 12);
        C.range("mark, 12 judges", 0, 11, 1, judge -> C.statusOf(full, full.mark(judge, 0, 50, 0)));
    }

    private static void boardOfAMark() {
        FairHall x = fairOf(2, 1);
        C.range("mark, board", 0, 1, 1, board -> C.statusOf(x, x.mark(0, board, 50, 0)));
        FairHall full = fairOf(24, 12);
        C.range("mark, 24 boards", 0, 23, 1, board -> C.statusOf(full, full.mark(0, board, 50, 0)));
    }

    private static void leastAndGreatestMark() {
        C.range("mark", 0, 100, 2, mark -> {
            FairHall x = fairOf(1, 1);
            int status = C.statusOf(x, x.mark(0, 0, mark, 0));
            if (status == 0) {
                C.dueFraction("fair of the mark " + mark, x, x.fair(0, 0), mark, 1);
            } else {
                C.due("a refused mark does not count", x, x.seen(0, 999), 0, 0);
            }
            return status;
        });
    }

    private static void dayOfAMark() {
        C.range("day of a mark", 0, 999, 2, day -> {
            FairHall x = fairOf(1, 1);
            int status = C.statusOf(x, x.mark(0, 0, 50, day));
            C.due("seen on day 999", x, x.seen(0, 999), status == 0 ? 1 : 0, 0);
            return status;
        });
    }

    // Part 2: "PLAN or not, MAY or not, is not looked at."

    private static void planAndMayAreNotLookedAt() {
        FairHall x = new FairHall();
        x.board(0, 0, 3, 0, false);
        x.judge(254, NONE, 24);
        x.judge(255, 3, 24);
        x.judge(1, NONE, 0);
        C.due("without a plan", x, x.mark(0, 0, 10, 0), 0, 0);
        C.due("none sees it in the plan", x, x.plan(), 2, 0);
        C.due("one that may not by its school", x, x.mark(1, 0, 20, 0), 1, 0);
        C.due("one whose most is 0", x, x.mark(2, 0, 30, 0), 2, 0);
        C.due("all count", x, x.seen(0, 0), 3, 0);
        C.due("they are one heap", x, x.heap(2, 0), 0, 0);
        C.dueFraction("and one mean", x, x.fair(0, 0), 20, 1);
        C.due("marks are no looks", x, x.sees(0, 0), 0, 0);
    }

    // Promise 12: "A MARK is LOST on a DAY (1; 2; 5)."

    private static void lostOfSuchAMark() {
        C.range("lose, mark", 0, 3, 1, mark -> {
            FairHall x = fairOf(4, 1);
            for (int board = 0; board < 4; board++) {
                x.mark(0, board, 50, 0);
            }
            int status = C.statusOf(x, x.lose(mark, 0));
            for (int board = 0; board < 4; board++) {
                C.due("seen(" + board + ") behind lose(" + mark + ")", x, x.seen(board, 0), board == mark ? 0 : 1, 0);
            }
            return status;
        });
        FairHall none = fairOf(1, 1);
        C.due("no marks", none, none.lose(0, 0), 1);
    }

    private static void lostOnADay() {
        C.range("lose, day", 0, 999, 2, day -> {
            FairHall x = fairOf(1, 1);
            x.mark(0, 0, 50, 0);
            int status = C.statusOf(x, x.lose(0, day));
            C.due("seen on day 999", x, x.seen(0, 999), status == 0 ? 0 : 1, 0);
            return status;
        });
    }

    private static void lostAlready() {
        FairHall x = fairOf(1, 1);
        x.mark(0, 0, 50, 0);
        C.due("a loss on day 0", x, x.lose(0, 0), 0);
        C.due("once more", x, x.lose(0, 0), 5);
        C.due("once more on another day", x, x.lose(0, 999), 5);
        C.due("the day of the loss stays", x, x.seen(0, 0), 0, 0);
        FairHall y = fairOf(1, 1);
        y.mark(0, 0, 50, 0);
        C.due("a loss on day 500", y, y.lose(0, 500), 0);
        C.due("a second on day 0", y, y.lose(0, 0), 5);
        C.due("a second on day 999", y, y.lose(0, 999), 5);
        C.due("seen on day 499", y, y.seen(0, 499), 1, 0);
        C.due("seen on day 500", y, y.seen(0, 500), 0, 0);
    }

    // Part 2: "As known on a DAY one counts that was TOLD on that DAY or ahead of it, and not LOST on it or ahead"

    private static void toldOnThatDayOrAhead() {
        for (int told : new int[] {0, 1, 500, 998, 999}) {
            FairHall x = fairOf(1, 1);
            x.mark(0, 0, 50, told);
            for (int day : new int[] {0, 1, 2, 499, 500, 501, 997, 998, 999}) {
                C.due("told on " + told + ": seen on " + day, x, x.seen(0, day), day >= told ? 1 : 0, 0);
                C.due("told on " + told + ": fair on " + day, x, x.fair(0, day), day >= told ? 0 : 6);
                C.due("told on " + told + ": heap on " + day, x, x.heap(0, day), day >= told ? 0 : NONE,
                        day >= told ? 0 : 6);
            }
        }
    }

    private static void notLostOnItOrAhead() {
        for (int lost : new int[] {0, 1, 500, 998, 999}) {
            FairHall x = fairOf(1, 1);
            x.mark(0, 0, 50, 0);
            x.lose(0, lost);
            for (int day : new int[] {0, 1, 2, 499, 500, 501, 997, 998, 999}) {
                C.due("lost on " + lost + ": seen on " + day, x, x.seen(0, day), day < lost ? 1 : 0, 0);
                C.due("lost on " + lost + ": hardness on " + day, x, x.hardness(0, day), day < lost ? 0 : 6);
            }
        }
    }

    private static void lostAheadOfTheDayItWasTold() {
        for (int lost : new int[] {0, 9, 10}) {
            FairHall x = fairOf(1, 1);
            x.mark(0, 0, 50, 10);
            C.due("a loss on " + lost, x, x.lose(0, lost), 0);
            for (int day : new int[] {0, 8, 9, 10, 11, 999}) {
                C.due("lost on " + lost + ", told on 10: seen on " + day, x, x.seen(0, day), 0, 0);
            }
        }
    }

    // Part 2: "of several of one JUDGE for one BOARD the latest told (by DAY, then by number)"

    private static void latestByDay() {
        FairHall x = fairOf(2, 1);
        x.mark(0, 0, 30, 30);
        x.mark(0, 0, 10, 10);
        x.mark(0, 0, 20, 20);
        C.due("ahead of all", x, x.fair(0, 9), 6);
        C.dueFraction("on day 10", x, x.fair(0, 10), 10, 1);
        C.dueFraction("on day 19", x, x.fair(0, 19), 10, 1);
        C.dueFraction("on day 20", x, x.fair(0, 20), 20, 1);
        C.dueFraction("on day 29", x, x.fair(0, 29), 20, 1);
        C.dueFraction("on day 30, told first", x, x.fair(0, 30), 30, 1);
        C.dueFraction("on day 999", x, x.fair(0, 999), 30, 1);
        C.due("another board has none", x, x.fair(1, 999), 6);
    }

    private static void latestByNumber() {
        FairHall x = fairOf(1, 2);
        x.mark(0, 0, 90, 7);
        x.mark(0, 0, 10, 7);
        C.dueFraction("of one day the second", x, x.fair(0, 7), 10, 1);
        x.mark(0, 0, 50, 7);
        C.dueFraction("of one day the third", x, x.fair(0, 7), 50, 1);
        x.mark(0, 0, 70, 6);
        C.dueFraction("the day goes ahead of the number", x, x.fair(0, 7), 50, 1);
        x.mark(1, 0, 20, 7);
        C.dueFraction("another judge's is beside it", x, x.fair(0, 7), 35, 1);
    }

    private static void latestOfThoseThatCount() {
        FairHall x = fairOf(1, 1);
        x.mark(0, 0, 10, 1);
        x.mark(0, 0, 20, 2);
        x.mark(0, 0, 30, 2);
        x.lose(2, 4);
        C.dueFraction("ahead of the loss", x, x.fair(0, 3), 30, 1);
        C.dueFraction("on the day of the loss", x, x.fair(0, 4), 20, 1);
        x.lose(1, 3);
        C.dueFraction("the lost one ahead of the latest is not looked at", x, x.fair(0, 3), 30, 1);
        C.dueFraction("both are lost", x, x.fair(0, 4), 10, 1);
    }

    // Promise 13: "Of a BOARD, as known on a DAY, how many MARKS count (1; 2)."

    private static void seenOfSuchABoard() {
        FairHall x = fairOf(3, 0);
        C.range("seen, board", 0, 2, 1, board -> C.statusOf(x, x.seen(board, 0)));
        FairHall full = fairOf(24, 0);
        C.range("seen, 24 boards", 0, 23, 1, board -> C.statusOf(full, full.seen(board, 999)));
    }

    private static void seenOnADay() {
        FairHall x = fairOf(1, 1);
        C.range("seen, day", 0, 999, 2, day -> C.statusOf(x, x.seen(0, day)));
    }

    private static void seenCountsJudges() {
        FairHall x = fairOf(2, 12);
        C.due("none", x, x.seen(0, 0), 0, 0);
        for (int judge = 0; judge < 12; judge++) {
            x.mark(judge, 0, 50, 0);
            C.due("judges so far", x, x.seen(0, 0), judge + 1, 0);
            x.mark(judge, 0, 60, 0);
            C.due("a judge's second mark takes the first one's place", x, x.seen(0, 0), judge + 1, 0);
        }
        C.due("another board", x, x.seen(1, 0), 0, 0);
    }

    // Promise 14: "The least JUDGE of the HEAP in which a JUDGE is, as known on a DAY (1; 2; 6)."

    /** Each judge by itself, so that there is something to answer for all of them. */
    private static FairHall markedBy(int judges) {
        FairHall x = fairOf(judges, judges);
        for (int judge = 0; judge < judges; judge++) {
            x.mark(judge, judge, 50, 0);
        }
        return x;
    }

    private static void heapOfSuchAJudge() {
        FairHall x = markedBy(3);
        C.range("heap, judge", 0, 2, 1, judge -> C.statusOf(x, x.heap(judge, 0)));
        FairHall full = markedBy(12);
        C.range("heap, 12 judges", 0, 11, 1, judge -> C.statusOf(full, full.heap(judge, 0)));
    }

    private static void heapOnADay() {
        FairHall x = markedBy(1);
        C.range("heap, day", 0, 999, 2, day -> C.statusOf(x, x.heap(0, day)));
    }

    private static void heapWithoutMarks() {
        FairHall x = fairOf(1, 3);
        C.dueNone("no marks at all", x, x.heap(0, 0), 6);
        x.mark(1, 0, 50, 5);
        C.dueNone("marks of another", x, x.heap(0, 5), 6);
        C.dueNone("marks that are told later", x, x.heap(1, 4), 6);
        C.due("marks that count", x, x.heap(1, 5), 1, 0);
        x.lose(0, 6);
        C.dueNone("marks that are lost", x, x.heap(1, 6), 6);
    }

    private static void heapOfOneJudge() {
        FairHall x = markedBy(12);
        for (int judge = 0; judge < 12; judge++) {
            C.due("a heap of one", x, x.heap(judge, 0), judge, 0);
        }
    }

    // Part 2: "HEAPS, as known on a DAY: JUDGES that have MARKS that count, joined by BOARDS that both have marked."

    private static void heapsJoinedByBoards() {
        FairHall x = fairOf(24, 12);
        // From the last judge down, so that the least of the heap comes last.
        for (int judge = 11; judge > 0; judge--) {
            x.mark(judge, 2 * judge, 50, 11 - judge);
            x.mark(judge - 1, 2 * judge, 50, 11 - judge);
        }
        for (int day = 0; day < 11; day++) {
            for (int judge = 10 - day; judge < 12; judge++) {
                C.due("heap(" + judge + ", " + day + ") of a chain", x, x.heap(judge, day), 10 - day, 0);
            }
            if (day < 10) {
                C.dueNone("a judge that is not in the chain so far", x, x.heap(9 - day, day), 6);
            }
        }
    }

    private static void heapsJoinedByMarksThatCount() {
        FairHall x = fairOf(3, 2);
        x.mark(0, 0, 50, 0);
        x.mark(1, 1, 50, 0);
        x.mark(1, 0, 50, 5);
        x.lose(2, 8);
        C.due("ahead of the mark that joins", x, x.heap(1, 4), 1, 0);
        C.due("on its day", x, x.heap(1, 5), 0, 0);
        C.due("the day ahead of its loss", x, x.heap(1, 7), 0, 0);
        C.due("on the day of its loss", x, x.heap(1, 8), 1, 0);
    }

    private static void heapOfTwelve() {
        FairHall x = fairOf(1, 12);
        for (int judge = 0; judge < 12; judge++) {
            x.mark(judge, 0, 50, 0);
        }
        for (int judge = 0; judge < 12; judge++) {
            C.due("a great heap has a least judge", x, x.heap(judge, 0), 0, 0);
        }
    }

    // Promise 15: "The FRACTION is the HARDNESS of a JUDGE, as known on a DAY (1; 2; 6; 9)."

    private static void hardnessOfSuchAJudge() {
        FairHall x = markedBy(3);
        C.range("hardness, judge", 0, 2, 1, judge -> C.statusOf(x, x.hardness(judge, 0)));
        FairHall full = markedBy(12);
        C.range("hardness, 12 judges", 0, 11, 1, judge -> C.statusOf(full, full.hardness(judge, 0)));
    }

    private static void hardnessOnADay() {
        FairHall x = markedBy(1);
        C.range("hardness, day", 0, 999, 2, day -> C.statusOf(x, x.hardness(0, day)));
    }

    private static void hardnessWithoutMarks() {
        FairHall x = fairOf(1, 2);
        C.due("no marks at all", x, x.hardness(0, 0), 6);
        x.mark(1, 0, 50, 5);
        C.due("marks of another", x, x.hardness(0, 5), 6);
        C.due("marks that are told later", x, x.hardness(1, 4), 6);
    }

    private static void hardnessOfOneJudge() {
        FairHall x = fairOf(24, 2);
        for (int board = 0; board < 24; board++) {
            x.mark(1, board, board % 2 == 0 ? 100 : 0, 0);
        }
        C.dueFraction("a heap of one judge", x, x.hardness(1, 0), 0, 1);
        C.dueFraction("its greatest mark is fair", x, x.fair(0, 0), 100, 1);
        C.dueFraction("its least mark is fair", x, x.fair(1, 0), 0, 1);
    }

    // Part 2: "HARDNESS of the JUDGES of a HEAP: those numbers with the sum 0 over the HEAP for which the sum of
    // squares of (MARK less HARDNESS less WORTH) is least"

    private static void hardnessHasTheSum0() {
        FairHall x = fairOf(1, 5);
        int[] marks = {100, 0, 0, 0, 0};
        for (int many = 2; many <= 5; many++) {
            for (int judge = 0; judge < many; judge++) {
                x.mark(judge, 0, marks[judge], many);
            }
            // The mean is 100 / many: the first is above it, the others below.
            int divisor = many == 2 ? 50 : many == 4 ? 25 : many == 5 ? 20 : 1;
            C.dueFraction("the first of " + many, x, x.hardness(0, many), many == 3 ? 200 : 100 - divisor,
                    many == 3 ? 3 : 1);
            for (int judge = 1; judge < many; judge++) {
                C.dueFraction("another of " + many, x, x.hardness(judge, many), many == 3 ? -100 : -divisor,
                        many == 3 ? 3 : 1);
            }
        }
    }

    /** Boards 0 and 1 of judges 0 and 1, board 2 of all three; with the mean for each board's worth: */
    private static void hardnessIsLeastSquares() {
        FairHall x = fairOf(4, 3);
        int[][] marks = {{0, 0, 60}, {1, 0, 40}, {0, 1, 50}, {1, 1, 50}, {0, 2, 90}, {1, 2, 60}, {2, 2, 30}};
        for (int[] mark : marks) {
            x.mark(mark[0], mark[1], mark[2], 0);
        }
        // Judge 0: h0 (1/2 + 1/2 + 2/3) - h1 (1/2 + 1/2 + 1/3) - h2 / 3 = 10 + 0 + 30
        // Judge 2: h2 2/3 - h0 / 3 - h1 / 3 = -30, and with the sum 0: h2 = -30, h0 + h1 = 30
        // 5/3 h0 - 4/3 (30 - h0) + 10 = 40: h0 = 70/3, h1 = 20/3
        C.dueFraction("judge 0", x, x.hardness(0, 0), 70, 3);
        C.dueFraction("judge 1", x, x.hardness(1, 0), 20, 3);
        C.dueFraction("judge 2", x, x.hardness(2, 0), -30, 1);
        // A board of one judge alone says nothing of its hardness.
        x.mark(2, 3, 100, 0);
        C.dueFraction("judge 0, with a board of judge 2 alone", x, x.hardness(0, 0), 70, 3);
        C.dueFraction("the fair of that board", x, x.fair(3, 0), 130, 1);
        C.dueFraction("fair of three", x, x.fair(2, 0), 60, 1);
        C.dueFraction("fair of two", x, x.fair(0, 0), 35, 1);
    }

    // Part 2: "GREAT (9): a HEAP of more than 5 JUDGES."

    private static void moreThanFiveJudges() {
        FairHall x = fairOf(1, 12);
        for (int judge = 0; judge < 12; judge++) {
            x.mark(judge, 0, 50, judge);
        }
        for (int day = 0; day < 12; day++) {
            int status = day < 5 ? 0 : 9;
            C.due("hardness in a heap of " + (day + 1), x, x.hardness(0, day), status);
            C.due("hardness of the last in a heap of " + (day + 1), x, x.hardness(day, day), status);
            C.due("fair in a heap of " + (day + 1), x, x.fair(0, day), status);
        }
    }

    private static void greatHeapAloneIsGreat() {
        FairHall x = fairOf(5, 12);
        for (int judge = 0; judge < 6; judge++) {
            x.mark(judge, 0, 50, 0);
        }
        for (int judge = 6; judge < 11; judge++) {
            x.mark(judge, 1, judge, 0);
        }
        x.mark(0, 2, 50, 0);
        C.due("a judge of six", x, x.hardness(5, 0), 9);
        C.due("a board of six", x, x.fair(0, 0), 9);
        C.due("a board of one judge of six", x, x.fair(2, 0), 9);
        C.dueFraction("a judge of five beside them", x, x.hardness(6, 0), -2, 1);
        C.dueFraction("a board of five beside them", x, x.fair(1, 0), 8, 1);
        C.due("a board of none", x, x.fair(3, 0), 6);
        C.due("a judge of none", x, x.hardness(11, 0), 6);
        x.lose(5, 3);
        C.due("the day ahead of a loss", x, x.hardness(0, 2), 9);
        C.due("five are left", x, x.hardness(0, 3), 0);
        // Two heaps of five, of which one judge joins the other: ten.
        x.mark(6, 2, 50, 4);
        C.due("two heaps joined", x, x.fair(1, 4), 9);
    }

    // Promise 16: "The FRACTION is FAIR of a BOARD, as known on a DAY (1; 2; 6; 9)."

    private static void fairOfSuchABoard() {
        FairHall x = markedBy(3);
        C.range("fair, board", 0, 2, 1, board -> C.statusOf(x, x.fair(board, 0)));
        FairHall full = fairOf(24, 1);
        for (int board = 0; board < 24; board++) {
            full.mark(0, board, board, 0);
        }
        C.range("fair, 24 boards", 0, 23, 1, board -> C.statusOf(full, full.fair(board, 0)));
        C.dueFraction("fair of the last board", full, full.fair(23, 0), 23, 1);
    }

    private static void fairOnADay() {
        FairHall x = markedBy(1);
        C.range("fair, day", 0, 999, 2, day -> C.statusOf(x, x.fair(0, day)));
    }

    private static void fairWithoutMarks() {
        FairHall x = fairOf(2, 1);
        C.due("no marks at all", x, x.fair(0, 0), 6);
        x.mark(0, 0, 50, 5);
        C.due("marks of another board", x, x.fair(1, 5), 6);
        C.due("marks that are told later", x, x.fair(0, 4), 6);
        x.lose(0, 6);
        C.due("marks that are lost", x, x.fair(0, 6), 6);
    }

    // Part 2: "FAIR of a BOARD: the mean of its MARKS that count, each less its JUDGE's HARDNESS."

    private static void fairIsTheMean() {
        FairHall x = fairOf(3, 2);
        x.mark(0, 0, 100, 0);
        x.mark(1, 0, 0, 0);
        x.mark(0, 1, 0, 0);
        x.mark(1, 2, 100, 0);
        C.dueFraction("of both", x, x.fair(0, 0), 50, 1);
        C.dueFraction("below 0", x, x.fair(1, 0), -50, 1);
        C.dueFraction("above 100", x, x.fair(2, 0), 150, 1);
    }

    // Promise 17: "The upper number of the FRACTION told latest with STATUS 0, without a common divisor with the
    // lower one." Promise 18: "Its lower number, above 0."

    private static FairHall halves() {
        FairHall x = fairOf(2, 3);
        x.mark(0, 0, 3, 0);
        x.mark(1, 0, 0, 0);
        C.dueFraction("three halves", x, x.hardness(0, 0), 3, 2);
        return x;
    }

    private static void fractionToldLatest() {
        FairHall x = halves();
        C.dueFraction("hardness behind hardness", x, x.hardness(1, 0), -3, 2);
        C.dueFraction("fair behind hardness", x, x.fair(0, 0), 3, 2);
        x.mark(2, 1, 7, 0);
        C.due("a mark changes nothing told", x.upper(), 3);
        C.dueFraction("fair behind fair", x, x.fair(1, 0), 7, 1);
        C.dueFraction("hardness behind fair", x, x.hardness(2, 0), 0, 1);
        C.due("upper() twice", x.upper(), 0);
        C.due("lower() twice", x.lower(), 1);
    }

    private static void fractionStaysWhereRefused() {
        FairHall x = halves();
        C.due("no such judge", x, x.hardness(3, 0), 1);
        C.due("no such board", x, x.fair(-1, 0), 1);
        C.due("no such day", x, x.hardness(0, 1000), 2);
        C.due("no such day", x, x.fair(0, -1), 2);
        C.due("no marks", x, x.hardness(2, 0), 6);
        C.due("no marks", x, x.fair(1, 0), 6);
        Check.prizes(x, "prize best 1;");
        C.due("given", x, x.given(0, 0, 0), 0, 0);
        C.due("seen", x, x.seen(0, 0), 2, 0);
        C.due("heap", x, x.heap(1, 0), 0, 0);
        for (int i = 0; i < 3; i++) {
            x.judge(1, NONE, 0);
        }
        for (int judge = 2; judge < 6; judge++) {
            x.mark(judge, 0, 50, 9);
        }
        C.due("a great heap", x, x.hardness(0, 9), 9);
        C.due("a great heap", x, x.fair(0, 9), 9);
        C.due("upper() behind all that", x.upper(), 3);
        C.due("lower() behind all that", x.lower(), 2);
    }

    private static void fractionWithoutACommonDivisor() {
        for (int mark = 0; mark <= 100; mark++) {
            FairHall x = fairOf(1, 4);
            x.mark(0, 0, mark, 0);
            x.mark(1, 0, 0, 0);
            x.mark(2, 0, 0, 0);
            x.mark(3, 0, 0, 0);
            int divisor = mark % 4 == 0 ? 4 : mark % 2 == 0 ? 2 : 1;
            C.dueFraction("fair of " + mark + " quarters", x, x.fair(0, 0), mark / divisor, 4 / divisor);
            C.dueFraction("hardness of " + mark + " quarters", x, x.hardness(1, 0), -mark / divisor, 4 / divisor);
        }
    }

    private static void lowerAbove0() {
        FairHall x = fairOf(3, 5);
        for (int judge = 0; judge < 5; judge++) {
            for (int board = 0; board < 3; board++) {
                if ((judge + board) % 3 != 1) {
                    x.mark(judge, board, 17 * judge * (board + 1) % 101, 0);
                }
            }
        }
        for (int judge = 0; judge < 5; judge++) {
            C.due("hardness(" + judge + ")", x, x.hardness(judge, 0), 0);
            C.due("lower() of " + x.upper() + " by " + x.lower(), x.lower() > 0, true);
        }
        for (int board = 0; board < 3; board++) {
            C.due("fair(" + board + ")", x, x.fair(board, 0), 0);
            C.due("lower() of " + x.upper() + " by " + x.lower(), x.lower() > 0, true);
        }
    }

    /** Twenty-four boards of five judges and 200 marks at most: the chain is the widest that hardness can be. */
    private static void greatestFractions() {
        FairHall x = fairOf(4, 5);
        for (int i = 0; i < 4; i++) {
            x.mark(i, i, 0, 0);
            x.mark(i + 1, i, 100, 0);
        }
        int[] want = {-200, -100, 0, 100, 200};
        for (int judge = 0; judge < 5; judge++) {
            C.dueFraction("the widest chain, judge " + judge, x, x.hardness(judge, 0), want[judge], 1);
        }
        FairHall y = fairOf(24, 5);
        for (int board = 0; board < 24; board++) {
            for (int judge = 0; judge < 5; judge++) {
                y.mark(judge, board, judge == 0 ? 100 : 0, 0);
            }
        }
        C.dueFraction("the hardest judge of 24 boards", y, y.hardness(0, 0), 80, 1);
        C.dueFraction("another judge of 24 boards", y, y.hardness(4, 0), -20, 1);
        C.dueFraction("fair of the last of 24 boards", y, y.fair(23, 0), 20, 1);
    }
}
