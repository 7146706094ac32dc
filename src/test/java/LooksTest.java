/** Promises 1 to 10: a new object, boards, judges, and the best plan. */
public final class LooksTest {
    private static final int NONE = FairHall.NONE;
    private static final Check C = new Check("LooksTest");

    public static void main(String[] args) {
        newObject();
        statusStays();
        board();
        judge();
        told();
        may();
        looks();
        planOfMostLooks();
        planStays();
        firstPlan();
        sees();
        holds();
        C.finish();
    }

    private static void newObject() {
        FairHall x = new FairHall();
        C.due("status() of a new object", x.status(), 0);
        C.due("upper() of a new object", x.upper(), 0);
        C.due("lower() of a new object", x.lower(), 1);
        C.due("fault(0) of a new object", x.fault(0), NONE);
        C.due("fault(1) of a new object", x.fault(1), NONE);
        C.due("status() behind calls without one", x.status(), 0);
        C.dueNone("told without boards", x, x.told(0, 0), 1);
        C.dueNone("may without judges", x, x.may(0, 0), 1);
        C.dueNone("given without prizes", x, x.given(0, 0, 0), 1);
        C.dueNone("lose without marks", x, x.lose(0, 0) ? 1 : NONE, 1);
        C.due("tries() without boards", x, x.tries(), 0, 0);
        C.due("prizes(0) on an empty tape", x, x.prizes(0), 0, 0);
        C.dueNone("prizes(1) on an empty tape", x, x.prizes(1), 2);
    }

    private static void statusStays() {
        FairHall x = new FairHall();
        C.dueNone("holds without a plan", x, x.holds(0), 4);
        x.upper();
        x.lower();
        x.fault(0);
        x.fault(7);
        x.feed(1, 2, 3, 4, 5);
        x.status();
        C.due("status() behind calls that have none", x.status(), 4);
        x.plan();
        C.due("status() behind a plan", x.status(), 0);
    }

    private static void board() {
        FairHall x = new FairHall();
        C.dueNone("field 8", x, x.board(8, 0, 0, 0, false), 2);
        C.dueNone("field -1", x, x.board(-1, 0, 0, 0, false), 2);
        C.dueNone("age 4", x, x.board(0, 4, 0, 0, false), 2);
        C.dueNone("age -1", x, x.board(0, -1, 0, 0, false), 2);
        C.dueNone("school 16", x, x.board(0, 0, 16, 0, false), 2);
        C.dueNone("school of a board NONE", x, x.board(0, 0, NONE, 0, false), 2);
        C.dueNone("power 100", x, x.board(0, 0, 0, 100, false), 2);
        C.dueNone("power -1", x, x.board(0, 0, 0, -1, false), 2);
        for (int i = 0; i < 24; i++) {
            C.due("board " + i, x, x.board(7, 3, 15, 99, true), i, 0);
        }
        C.dueNone("a board too many", x, x.board(0, 0, 0, 0, false), 3);
        C.dueNone("a wrong one too many", x, x.board(8, 0, 0, 0, false), 2);
        C.due("the last board", x, x.told(23, 0), 7, 0);
    }

    private static void judge() {
        FairHall x = new FairHall();
        C.dueNone("fields 256", x, x.judge(256, 0, 0), 2);
        C.dueNone("fields -1", x, x.judge(-1, 0, 0), 2);
        C.dueNone("school 16", x, x.judge(0, 16, 0), 2);
        C.dueNone("school -2", x, x.judge(0, -2, 0), 2);
        C.dueNone("most 25", x, x.judge(0, 0, 25), 2);
        C.dueNone("most -1", x, x.judge(0, 0, -1), 2);
        C.due("no fields", x, x.judge(0, NONE, 0), 0, 0);
        for (int i = 1; i < 12; i++) {
            C.due("judge " + i, x, x.judge(255, 15, 24), i, 0);
        }
        C.dueNone("a judge too many", x, x.judge(1, 0, 1), 3);
        C.dueNone("a wrong one too many", x, x.judge(256, 0, 1), 2);
    }

    private static void told() {
        FairHall x = new FairHall();
        x.board(1, 2, 3, 4, true);
        x.board(7, 3, 15, 99, false);
        x.judge(2, NONE, 0);
        x.judge(255, 3, 0);
        x.judge(255, 4, 0);
        int[] first = {1, 2, 3, 4, 1, 2};
        int[] second = {7, 3, 15, 99, 0, 2};
        for (int what = 0; what < 6; what++) {
            C.due("told(0, " + what + ")", x, x.told(0, what), first[what], 0);
            C.due("told(1, " + what + ")", x, x.told(1, what), second[what], 0);
        }
        C.dueNone("what 6", x, x.told(0, 6), 2);
        C.dueNone("what -1", x, x.told(0, -1), 2);
        C.dueNone("no such board", x, x.told(2, 0), 1);
        C.dueNone("no such board, what 6", x, x.told(2, 6), 1);
        C.dueNone("board -1", x, x.told(-1, 0), 1);
    }

    private static void may() {
        FairHall x = new FairHall();
        for (int field = 0; field < 8; field++) {
            x.board(field, 0, field, 0, false);
        }
        x.judge(0b10010001, 7, 0);
        x.judge(255, NONE, 0);
        for (int field = 0; field < 8; field++) {
            C.due("may(0, " + field + ")", x, x.may(0, field), field == 0 || field == 4 ? 1 : 0, 0);
            C.due("may(1, " + field + ")", x, x.may(1, field), 1, 0);
        }
        C.dueNone("no such judge", x, x.may(2, 0), 1);
        C.dueNone("judge -1", x, x.may(-1, 0), 1);
        C.dueNone("no such board", x, x.may(0, 8), 1);
        C.dueNone("board -1", x, x.may(0, -1), 1);
    }

    private static void looks() {
        FairHall x = new FairHall();
        x.board(0, 0, 0, 0, false);
        C.due("two looks at first", x, x.plan(), 2, 0);
        for (int many = 1; many <= 4; many++) {
            C.due("looks(" + many + ")", x, x.looks(many), 0);
            C.due("a plan of " + many, x, x.plan(), many, 0);
        }
        C.due("looks(0)", x, x.looks(0), 2);
        C.due("looks(5)", x, x.looks(5), 2);
        C.due("looks(-1)", x, x.looks(-1), 2);
        C.due("looks refused are not taken", x, x.plan(), 4, 0);
    }

    private static void planOfMostLooks() {
        FairHall x = new FairHall();
        C.due("a plan of nothing", x, x.plan(), 0, 0);
        x.judge(1, NONE, 24);
        C.due("a plan without boards", x, x.plan(), 0, 0);
        // Judge 0 may see all, the others one field each: a first come, first served plan lacks looks.
        FairHall y = new FairHall();
        y.board(0, 0, 0, 0, false);
        y.board(1, 0, 0, 0, false);
        y.board(2, 0, 0, 0, false);
        y.judge(7, NONE, 1);
        y.judge(1, NONE, 1);
        y.judge(2, NONE, 1);
        y.looks(1);
        C.due("a plan by exchanges", y, y.plan(), 0, 0);
        C.due("board 0", y.sees(1, 0), 1);
        C.due("board 1", y.sees(2, 1), 1);
        C.due("board 2", y.sees(0, 2), 1);
        // The widest fair: each board lacks nothing with 12 judges of 8 boards and 4 looks.
        FairHall z = new FairHall();
        for (int board = 0; board < 24; board++) {
            z.board(board % 8, 0, 0, 0, false);
        }
        for (int judge = 0; judge < 12; judge++) {
            z.judge(255, NONE, 8);
        }
        z.looks(4);
        C.due("the widest plan", z, z.plan(), 0, 0);
        for (int board = 0; board < 24; board++) {
            for (int judge = 0; judge < 12; judge++) {
                C.due("the widest plan sees(" + judge + ", " + board + ")", z.sees(judge, board),
                        judge / 4 == board / 8 ? 1 : 0);
            }
        }
    }

    private static void planStays() {
        FairHall x = new FairHall();
        x.board(0, 0, 0, 0, false);
        x.judge(1, NONE, 5);
        C.due("plan", x, x.plan(), 1, 0);
        x.judge(1, NONE, 5);
        x.board(0, 0, 0, 0, false);
        x.looks(1);
        C.due("the plan kept has the old judge", x, x.sees(0, 0), 1, 0);
        C.dueNone("a later judge is not in it", x, x.sees(1, 0), 1);
        C.dueNone("a later board is not in it", x, x.sees(0, 1), 1);
        C.dueNone("a later board does not hold in it", x, x.holds(1), 1);
        C.due("the board held then", x, x.holds(0), 1, 0);
        C.due("the next plan", x, x.plan(), 0, 0);
        C.due("the next plan has the later board", x, x.sees(0, 1), 1, 0);
        C.due("the board holds no more", x, x.holds(0), 0, 0);
    }

    private static void firstPlan() {
        // Both judges could see either board: the lesser judge goes to the lesser board.
        FairHall x = new FairHall();
        x.board(0, 0, 0, 0, false);
        x.board(0, 0, 0, 0, false);
        x.judge(1, NONE, 1);
        x.judge(1, NONE, 1);
        x.looks(1);
        C.due("plan", x, x.plan(), 0, 0);
        C.due("sees(0, 0)", x.sees(0, 0), 1);
        C.due("sees(1, 0)", x.sees(1, 0), 0);
        C.due("sees(0, 1)", x.sees(0, 1), 0);
        C.due("sees(1, 1)", x.sees(1, 1), 1);
        // Looks are scarce: board 0 takes both ahead of an even share.
        x.looks(2);
        C.due("plan with scarce looks", x, x.plan(), 2, 0);
        C.due("board 0 has judge 0", x.sees(0, 0), 1);
        C.due("board 0 has judge 1", x.sees(1, 0), 1);
        C.due("board 1 has none", x.sees(0, 1) + x.sees(1, 1), 0);
        // The most looks go ahead of the first place: judge 1 may see board 0 alone.
        FairHall y = new FairHall();
        y.board(0, 0, 0, 0, false);
        y.board(1, 0, 0, 0, false);
        y.judge(3, NONE, 1);
        y.judge(1, NONE, 1);
        y.looks(1);
        C.due("most looks first", y, y.plan(), 0, 0);
        C.due("judge 0 leaves board 0", y.sees(0, 0), 0);
        exchangeOfThree();
    }

    /**
     * Fields 0, 1, 2 and one look. Board 1 can have judge 0 or 2, board 2 judge 1 or 2; board 0 judge 0, 1 or 2.
     * Judge 0 goes to board 0, so that board 1 has judge 2 and board 2 judge 1.
     */
    private static void exchangeOfThree() {
        FairHall x = new FairHall();
        x.board(0, 0, 0, 0, false);
        x.board(1, 0, 0, 0, false);
        x.board(2, 0, 0, 0, false);
        x.judge(3, NONE, 1);
        x.judge(5, NONE, 1);
        x.judge(7, NONE, 1);
        x.looks(1);
        C.due("plan of three", x, x.plan(), 0, 0);
        int[] judgeOf = {0, 2, 1};
        for (int board = 0; board < 3; board++) {
            for (int judge = 0; judge < 3; judge++) {
                C.due("sees(" + judge + ", " + board + ") of three", x.sees(judge, board),
                        judgeOf[board] == judge ? 1 : 0);
            }
        }
        // Two looks, six in all, of which four can be: boards 0 and 1 take what they may.
        FairHall y = new FairHall();
        y.board(1, 0, 0, 0, false);
        y.board(0, 0, 0, 0, false);
        y.board(2, 0, 0, 0, false);
        y.judge(2, NONE, 2);
        y.judge(7, NONE, 1);
        y.judge(5, NONE, 2);
        y.looks(2);
        C.due("plan of scarce judges", y, y.plan(), 2, 0);
        int[][] seers = {{1, 1, 0}, {0, 0, 1}, {0, 0, 1}};
        for (int board = 0; board < 3; board++) {
            for (int judge = 0; judge < 3; judge++) {
                C.due("sees(" + judge + ", " + board + ") of scarce judges", y.sees(judge, board),
                        seers[board][judge]);
            }
            C.due("holds(" + board + ") of scarce judges", y.holds(board), 1);
        }
    }

    private static void sees() {
        FairHall x = new FairHall();
        x.board(0, 0, 0, 0, false);
        x.judge(1, NONE, 1);
        C.dueNone("sees without a plan", x, x.sees(0, 0), 4);
        C.dueNone("sees of none such without a plan", x, x.sees(-1, 99), 4);
        x.plan();
        C.due("sees(0, 0)", x, x.sees(0, 0), 1, 0);
        C.dueNone("judge -1", x, x.sees(-1, 0), 1);
        C.dueNone("judge 1", x, x.sees(1, 0), 1);
        C.dueNone("board -1", x, x.sees(0, -1), 1);
        C.dueNone("board 1", x, x.sees(0, 1), 1);
    }

    private static void holds() {
        FairHall x = new FairHall();
        // Board 0 lacks; judge 0 may see it but sees board 1 in its place; board 2 stands apart.
        x.board(0, 0, 0, 0, false);
        x.board(0, 0, 1, 0, false);
        x.board(5, 0, 0, 0, false);
        x.judge(1, NONE, 1);
        x.judge(1, 1, 0);
        x.judge(32, NONE, 1);
        C.dueNone("holds without a plan", x, x.holds(9), 4);
        x.looks(1);
        C.due("plan", x, x.plan(), 1, 0);
        C.due("board 0 sees judge 0", x.sees(0, 0), 1);
        C.due("holds(1), which lacks", x, x.holds(1), 1, 0);
        C.due("holds(0), to which one comes", x, x.holds(0), 1, 0);
        C.due("holds(2), apart", x, x.holds(2), 0, 0);
        C.dueNone("board 3", x, x.holds(3), 1);
        C.dueNone("board -1", x, x.holds(-1), 1);
        // A chain of two: from board 2 by judge 1 to board 1, by judge 0 to board 0.
        FairHall y = new FairHall();
        y.board(0, 0, 0, 0, false);
        y.board(1, 0, 0, 0, false);
        y.board(2, 0, 0, 0, false);
        y.board(3, 0, 0, 0, false);
        y.judge(3, NONE, 1);
        y.judge(6, NONE, 1);
        y.judge(8, NONE, 1);
        y.looks(1);
        C.due("plan of a chain", y, y.plan(), 1, 0);
        C.due("board 0 has its look", y.sees(0, 0), 1);
        C.due("board 1 has its look", y.sees(1, 1), 1);
        C.due("the end of the chain", y.holds(0), 1);
        C.due("the middle of the chain", y.holds(1), 1);
        C.due("the one that lacks", y.holds(2), 1);
        C.due("outside the chain", y.holds(3), 0);
    }
}
