/** Promises 11 to 18: marks as known on a day, heaps, hardness and fair. */
public final class MarksTest {
    private static final int NONE = FairHall.NONE;
    private static final Check C = new Check("MarksTest");

    public static void main(String[] args) {
        mark();
        lose();
        knownOnADay();
        latestOfSeveral();
        heap();
        hardness();
        hardnessOfFive();
        great();
        fair();
        fraction();
        C.finish();
    }

    private static FairHall fairOf(int boards, int judges) {
        FairHall x = new FairHall();
        for (int i = 0; i < boards; i++) {
            x.board(0, 0, 0, 0, false);
        }
        for (int i = 0; i < judges; i++) {
            x.judge(0, 0, 0);
        }
        return x;
    }

    private static void mark() {
        FairHall x = fairOf(2, 2);
        C.dueNone("no such judge", x, x.mark(2, 0, 50, 0), 1);
        C.dueNone("judge -1", x, x.mark(-1, 0, 50, 0), 1);
        C.dueNone("no such board", x, x.mark(0, 2, 50, 0), 1);
        C.dueNone("board -1, mark 101", x, x.mark(0, -1, 101, 0), 1);
        C.dueNone("mark 101", x, x.mark(0, 0, 101, 0), 2);
        C.dueNone("mark -1", x, x.mark(0, 0, -1, 0), 2);
        C.dueNone("day 1000", x, x.mark(0, 0, 0, 1000), 2);
        C.dueNone("day -1", x, x.mark(0, 0, 0, -1), 2);
        for (int i = 0; i < 200; i++) {
            C.due("mark " + i, x, x.mark(1, i % 2, i % 101, i * 5), i, 0);
        }
        C.dueNone("a mark too many", x, x.mark(0, 0, 0, 0), 3);
        C.dueNone("a wrong one too many", x, x.mark(0, 0, 101, 0), 2);
        C.due("lost marks count among the 200: losing one", x, x.lose(0, 0), 0);
        C.dueNone("a mark too many behind a loss", x, x.mark(0, 0, 0, 0), 3);
    }

    private static void lose() {
        FairHall x = fairOf(1, 1);
        x.mark(0, 0, 50, 10);
        C.due("mark -1", x, x.lose(-1, 0), 1);
        C.due("no such mark, day 1000", x, x.lose(1, 1000), 1);
        C.due("day 1000", x, x.lose(0, 1000), 2);
        C.due("day -1", x, x.lose(0, -1), 2);
        C.due("a loss", x, x.lose(0, 999), 0);
        C.due("a second loss", x, x.lose(0, 0), 5);
        C.due("a second loss on no day", x, x.lose(0, 1000), 2);
        C.due("seen ahead of the loss", x, x.seen(0, 998), 1, 0);
        C.due("seen on the day of the loss", x, x.seen(0, 999), 0, 0);
        // Lost ahead of the day it was told on: it never counts.
        x.mark(0, 0, 50, 20);
        C.due("a loss ahead of the mark", x, x.lose(1, 5), 0);
        C.due("seen behind both", x, x.seen(0, 20), 1, 0);
        C.due("seen on day 999", x, x.seen(0, 999), 0, 0);
    }

    private static void knownOnADay() {
        FairHall x = fairOf(2, 3);
        x.mark(0, 0, 50, 5);
        x.mark(1, 0, 60, 7);
        x.lose(0, 9);
        int[] days = {0, 4, 5, 6, 7, 8, 9, 999};
        int[] want = {0, 0, 1, 1, 2, 2, 1, 1};
        for (int i = 0; i < days.length; i++) {
            C.due("seen(0, " + days[i] + ")", x, x.seen(0, days[i]), want[i], 0);
            C.due("seen(1, " + days[i] + ")", x, x.seen(1, days[i]), 0, 0);
        }
        C.dueNone("no such board", x, x.seen(2, 1000), 1);
        C.dueNone("board -1", x, x.seen(-1, 0), 1);
        C.dueNone("day 1000", x, x.seen(0, 1000), 2);
        C.dueNone("day -1", x, x.seen(0, -1), 2);
    }

    private static void latestOfSeveral() {
        FairHall x = fairOf(1, 1);
        x.mark(0, 0, 10, 5);
        x.mark(0, 0, 20, 3);
        C.dueFraction("the later day counts", x, x.fair(0, 5), 10, 1);
        C.dueFraction("the earlier day by itself", x, x.fair(0, 4), 20, 1);
        x.mark(0, 0, 30, 5);
        C.dueFraction("of one day the later number", x, x.fair(0, 5), 30, 1);
        C.due("one judge is one mark", x, x.seen(0, 5), 1, 0);
        x.lose(2, 8);
        C.dueFraction("ahead of the loss", x, x.fair(0, 7), 30, 1);
        C.dueFraction("what stood ahead of the lost one counts again", x, x.fair(0, 8), 10, 1);
        x.lose(0, 8);
        C.dueFraction("and what stood ahead of that", x, x.fair(0, 8), 20, 1);
        x.lose(1, 9);
        C.due("none is left", x, x.fair(0, 9), 6);
    }

    private static void heap() {
        FairHall x = fairOf(4, 6);
        x.mark(5, 0, 1, 1);
        x.mark(3, 0, 1, 1);
        x.mark(4, 1, 1, 1);
        x.mark(1, 1, 1, 1);
        x.mark(3, 2, 1, 2);
        x.mark(4, 2, 1, 2);
        x.mark(2, 3, 1, 1);
        int[] early = {NONE, 1, 2, 3, 1, 3};
        int[] late = {NONE, 1, 2, 1, 1, 1};
        for (int judge = 0; judge < 6; judge++) {
            C.due("heap(" + judge + ", 1)", x, x.heap(judge, 1), early[judge], judge == 0 ? 6 : 0);
            C.due("heap(" + judge + ", 2)", x, x.heap(judge, 2), late[judge], judge == 0 ? 6 : 0);
            C.dueNone("heap(" + judge + ", 0)", x, x.heap(judge, 0), 6);
        }
        C.dueNone("no such judge", x, x.heap(6, 1000), 1);
        C.dueNone("judge -1", x, x.heap(-1, 0), 1);
        C.dueNone("day 1000", x, x.heap(0, 1000), 2);
        C.dueNone("day -1", x, x.heap(1, -1), 2);
    }

    private static void hardness() {
        FairHall x = fairOf(4, 4);
        x.mark(0, 0, 90, 1);
        x.mark(1, 1, 10, 1);
        C.dueFraction("a judge by itself", x, x.hardness(0, 1), 0, 1);
        x.mark(1, 0, 60, 2);
        x.mark(2, 0, 61, 2);
        C.dueFraction("hardness(0, 2)", x, x.hardness(0, 2), 59, 3);
        C.dueFraction("hardness(1, 2)", x, x.hardness(1, 2), -31, 3);
        C.dueFraction("hardness(2, 2)", x, x.hardness(2, 2), -28, 3);
        // Two boards that disagree about judges 0 and 1: the mean of both.
        x.mark(0, 2, 50, 3);
        x.mark(1, 2, 70, 3);
        x.lose(3, 3);
        C.dueFraction("hardness(0, 3)", x, x.hardness(0, 3), 5, 2);
        C.dueFraction("hardness(1, 3)", x, x.hardness(1, 3), -5, 2);
        C.due("a judge without marks", x, x.hardness(3, 3), 6);
        C.due("a judge whose mark is lost", x, x.hardness(2, 3), 6);
        C.due("no such judge", x, x.hardness(4, 1000), 1);
        C.due("judge -1", x, x.hardness(-1, 3), 1);
        C.due("day 1000", x, x.hardness(0, 1000), 2);
        C.due("day -1", x, x.hardness(3, -1), 2);
        C.due("upper() behind refusals", x.upper(), -5);
        C.due("lower() behind refusals", x.lower(), 2);
    }

    /** A chain of five judges, each 100 harder than the next: the widest that hardness can be. */
    private static void hardnessOfFive() {
        FairHall x = fairOf(4, 5);
        for (int i = 0; i < 4; i++) {
            x.mark(i, i, 100, 0);
            x.mark(i + 1, i, 0, 0);
        }
        for (int i = 0; i < 5; i++) {
            C.dueFraction("hardness(" + i + ", 0)", x, x.hardness(i, 0), 200 - 100 * i, 1);
        }
        C.dueFraction("fair(0, 0)", x, x.fair(0, 0), -100, 1);
        C.dueFraction("fair(3, 0)", x, x.fair(3, 0), 200, 1);
        // Five judges that mark all 24 boards: the hardest sums; each is off by its own number.
        FairHall y = fairOf(24, 5);
        for (int board = 0; board < 24; board++) {
            for (int judge = 0; judge < 5; judge++) {
                y.mark(judge, board, 2 * board + judge * judge, 0);
            }
        }
        for (int judge = 0; judge < 5; judge++) {
            C.dueFraction("full hardness(" + judge + ")", y, y.hardness(judge, 0), judge * judge - 6, 1);
        }
        C.dueFraction("full fair(23)", y, y.fair(23, 0), 52, 1);
    }

    private static void great() {
        FairHall x = fairOf(7, 8);
        for (int i = 0; i < 4; i++) {
            x.mark(i, i, 50, 0);
            x.mark(i + 1, i, 50, 0);
        }
        x.mark(7, 6, 40, 0);
        C.dueFraction("a heap of five", x, x.hardness(4, 0), 0, 1);
        x.mark(5, 5, 50, 0);
        x.mark(4, 5, 50, 1);
        C.dueFraction("a heap of five on day 0", x, x.fair(0, 0), 50, 1);
        for (int judge = 0; judge < 6; judge++) {
            C.due("hardness in a heap of six", x, x.hardness(judge, 1), 9);
        }
        C.due("fair in a heap of six", x, x.fair(0, 1), 9);
        C.due("fair of a board without marks", x, x.fair(4, 1), 6);
        C.dueFraction("another heap is as it was", x, x.fair(6, 1), 40, 1);
        C.due("a great heap has a least judge", x, x.heap(5, 1), 0, 0);
        C.due("hardness of a judge without marks", x, x.hardness(6, 1), 6);
    }

    private static void fair() {
        FairHall x = fairOf(4, 3);
        x.mark(0, 0, 80, 1);
        x.mark(1, 0, 60, 1);
        x.mark(1, 1, 50, 1);
        x.mark(0, 2, 70, 2);
        x.mark(2, 3, 33, 1);
        C.dueFraction("a board of both", x, x.fair(0, 1), 70, 1);
        C.dueFraction("a board of the one that is hard", x, x.fair(1, 1), 60, 1);
        C.dueFraction("a board of the one that is mild", x, x.fair(2, 2), 60, 1);
        C.dueFraction("a board of another heap", x, x.fair(3, 1), 33, 1);
        C.due("a board without marks so far", x, x.fair(2, 1), 6);
        C.due("no such board", x, x.fair(4, 1000), 1);
        C.due("board -1", x, x.fair(-1, 0), 1);
        C.due("day 1000", x, x.fair(0, 1000), 2);
        C.due("day -1", x, x.fair(2, -1), 2);
        FairHall y = fairOf(2, 3);
        y.mark(0, 0, 0, 0);
        y.mark(1, 0, 0, 0);
        y.mark(2, 0, 1, 0);
        C.dueFraction("a mean of three", y, y.fair(0, 0), 1, 3);
        y.mark(0, 1, 0, 0);
        y.mark(2, 1, 0, 0);
        C.dueFraction("a mean with hardness", y, y.fair(1, 0), -1, 6);
    }

    private static void fraction() {
        FairHall x = fairOf(1, 2);
        x.mark(0, 0, 3, 0);
        x.mark(1, 0, 0, 0);
        C.dueFraction("hardness", x, x.hardness(1, 0), -3, 2);
        x.seen(0, 0);
        x.heap(0, 0);
        x.plan();
        x.fair(9, 0);
        x.hardness(0, -1);
        C.due("upper() stays", x.upper(), -3);
        C.due("lower() stays", x.lower(), 2);
        C.dueFraction("fair", x, x.fair(0, 0), 3, 2);
        x.mark(1, 0, 3, 1);
        C.dueFraction("hardness 0 is 0 by 1", x, x.hardness(1, 1), 0, 1);
    }
}
