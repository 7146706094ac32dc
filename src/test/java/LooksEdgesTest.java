/** Part 1 and promises 1 to 10 at their boundaries: a method for each sentence that names one. */
public final class LooksEdgesTest {
    private static final int NONE = FairHall.NONE;
    private static final int MIN = Integer.MIN_VALUE;
    private static final int MAX = Integer.MAX_VALUE;
    private static final Check C = new Check("LooksEdgesTest");

    public static void main(String[] args) {
        newObject();
        objectsApart();
        statusOfTheLatestCall();
        boardsAtMost24();
        boardsNumberedAsTheyCome();
        fieldOfABoard();
        ageOfABoard();
        schoolOfABoard();
        powerOfABoard();
        waterOrNot();
        toldOfSuchABoard();
        toldWhat();
        toldJudgesThatMay();
        judgesAtMost12();
        fieldsOfAJudge();
        fieldsBitByBit();
        schoolOfAJudge();
        mayNotSeeItsSchool();
        mayOfSuchOnes();
        mostOfAJudge();
        noMoreThanMost();
        looksFrom1To4();
        looksAre2AtFirst();
        noMoreThanLooks();
        differentJudges();
        planWithNoBoards();
        planWithNoJudges();
        planWithAMostOf0();
        planOfNoneThatMay();
        mostLooksAheadOfTheFirst();
        firstBoardByBoard();
        firstJudgeByJudge();
        longestExchange();
        allPlansOfThreeByThree();
        fullPlan();
        planStaysTillTheNext();
        laterOnesAreNotInThePlan();
        seesWithoutAPlan();
        seesOfSuchOnes();
        holdsWithoutAPlan();
        holdsOfSuchABoard();
        holdingNoneWhereNoneLacks();
        holdingAllThatLack();
        holdingByJudgesThatDoNotSee();
        holdingByBoardsThatAreSeen();
        holdingByJudgesThatMay();
        holdingAlongAChain();
        holdingWithTheBestPlan();
        C.finish();
    }

    private static FairHall boards(int many) {
        FairHall x = new FairHall();
        for (int i = 0; i < many; i++) {
            x.board(0, 0, 0, 0, false);
        }
        return x;
    }

    private static void addJudges(FairHall x, int many, int most) {
        for (int i = 0; i < many; i++) {
            x.judge(1, NONE, most);
        }
    }

    /** What the plan kept says, a word for each board: the judges that see it as bits, judge 0 first. */
    private static void duePlan(String what, FairHall x, String... boards) {
        for (int board = 0; board < boards.length; board++) {
            for (int judge = 0; judge < boards[board].length(); judge++) {
                C.due(what + ": sees(" + judge + ", " + board + ")", x, x.sees(judge, board),
                        boards[board].charAt(judge) - '0', 0);
            }
        }
    }

    private static void dueHolding(String what, FairHall x, String boards) {
        for (int board = 0; board < boards.length(); board++) {
            C.due(what + ": holds(" + board + ")", x, x.holds(board), boards.charAt(board) - '0', 0);
        }
    }

    // Promise 1: "No BOARDS, no JUDGES, no HALLS, no PRIZES, an empty tape; the FRACTION 0 by 1; STATUS 0."

    private static void newObject() {
        C.due("status() of a new object", new FairHall().status(), 0);
        C.due("upper() of a new object", new FairHall().upper(), 0);
        C.due("lower() of a new object", new FairHall().lower(), 1);
        C.due("the first board's number", new FairHall().board(0, 0, 0, 0, false), 0);
        C.due("the first judge's number", new FairHall().judge(1, 0, 0), 0);
        C.due("the first hall's number", new FairHall().hall(0, 0, 0), 0);
        C.due("the first twenty bytes", new FairHall().feed(0, 0, 0, 0, 0), 20);
        FairHall x = new FairHall();
        C.dueNone("no board", x, x.told(0, 0), 1);
        C.dueNone("no judge", x, x.heap(0, 0), 1);
        C.due("no mark", x, x.lose(0, 0), 1);
        C.dueNone("no prize", x, x.given(0, 0, 0), 1);
        C.dueNone("no byte on the tape", x, x.prizes(1), 2);
        C.dueNone("no plan", x, x.sees(0, 0), 4);
        x.board(0, 0, 0, 0, false);
        C.dueNone("no hall", x, x.laid(0), 8);
    }

    private static void objectsApart() {
        FairHall x = boards(3);
        FairHall y = new FairHall();
        addJudges(x, 3, 3);
        x.plan();
        x.mark(0, 0, 7, 0);
        x.fair(0, 0);
        x.hall(1, 1, 1);
        x.feed(1, 1, 1, 1, 1);
        x.prizes(1);
        x.looks(4);
        C.due("another object's status()", y.status(), 0);
        C.due("another object's board", y.board(0, 0, 0, 0, false), 0);
        C.due("another object's judge", y.judge(0, NONE, 0), 0);
        C.due("another object's hall", y.hall(0, 0, 0), 0);
        C.due("another object's tape", y.feed(0, 0, 0, 0, 0), 20);
        C.due("another object's fault", y.fault(0), NONE);
        C.due("another object's upper()", y.upper(), 0);
        C.dueNone("another object's plan", y, y.holds(0), 4);
        C.due("another object's looks", y.plan(), 2);
    }

    // Promise 2: "The STATUS of the latest call that has one."

    private static void statusOfTheLatestCall() {
        FairHall x = new FairHall();
        x.told(0, 0);
        C.due("status() behind told()", x.status(), 1);
        C.due("status() once more", x.status(), 1);
        x.looks(0);
        C.due("status() behind looks()", x.status(), 2);
        x.upper();
        x.lower();
        x.fault(0);
        x.fault(1);
        x.fault(MAX);
        x.feed(0, 0, 0, 0, 0);
        for (int i = 0; i < 15; i++) {
            x.feed(0, 0, 0, 0, 0);
        }
        C.due("status() behind calls that have none", x.status(), 2);
        x.looks(1);
        C.due("status() behind a call that was taken", x.status(), 0);
    }

    // Part 1: "BOARDS, at most 24, numbered as they come: FIELD 0 to 7, AGE 0 to 3, SCHOOL 0 to 15, POWER 0 to 99,
    // WATER or not."

    private static void boardsAtMost24() {
        FairHall x = boards(22);
        C.due("board 23 of 24", x, x.board(1, 1, 1, 1, false), 22, 0);
        C.due("board 24 of 24", x, x.board(2, 2, 2, 2, false), 23, 0);
        C.dueNone("board 25 of 24", x, x.board(3, 3, 3, 3, true), 3);
        C.dueNone("board 26 of 24", x, x.board(3, 3, 3, 3, true), 3);
        C.dueNone("told of the one too many", x, x.told(24, 0), 1);
        C.due("the last one is as it was", x, x.told(23, 0), 2, 0);
        C.due("the first one is as it was", x, x.told(0, 0), 0, 0);
    }

    private static void boardsNumberedAsTheyCome() {
        FairHall x = new FairHall();
        C.due("the first", x, x.board(7, 0, 0, 0, false), 0, 0);
        C.dueNone("a refused one", x, x.board(8, 0, 0, 0, false), 2);
        C.due("a refused one has no number", x, x.board(6, 0, 0, 0, false), 1, 0);
        C.due("told of the first", x, x.told(0, 0), 7, 0);
        C.due("told of the second", x, x.told(1, 0), 6, 0);
    }

    private static int takenBoard(int field, int age, int school, int power) {
        FairHall x = new FairHall();
        int status = C.statusOf(x, x.board(field, age, school, power, false));
        if (status == 0) {
            int[] want = {field, age, school, power, 0};
            for (int what = 0; what < 5; what++) {
                C.due("told(0, " + what + ")", x, x.told(0, what), want[what], 0);
            }
        } else {
            C.due("a refused board is none", x, x.board(0, 0, 0, 0, false), 0, 0);
        }
        return status;
    }

    private static void fieldOfABoard() {
        C.range("field", 0, 7, 2, field -> takenBoard(field, 1, 2, 3));
    }

    private static void ageOfABoard() {
        C.range("age", 0, 3, 2, age -> takenBoard(1, age, 2, 3));
    }

    private static void schoolOfABoard() {
        C.range("school of a board", 0, 15, 2, school -> takenBoard(1, 2, school, 3));
    }

    private static void powerOfABoard() {
        C.range("power of a board", 0, 99, 2, power -> takenBoard(1, 2, 3, power));
    }

    private static void waterOrNot() {
        FairHall x = new FairHall();
        x.board(0, 0, 0, 0, true);
        x.board(0, 0, 0, 0, false);
        C.due("with water", x, x.told(0, 4), 1, 0);
        C.due("without", x, x.told(1, 4), 0, 0);
    }

    // Promise 5: "what 0: FIELD, 1: AGE, 2: SCHOOL, 3: POWER, 4: WATER (1, 0), 5: JUDGES that MAY see it (1; 2)."

    private static void toldOfSuchABoard() {
        FairHall x = boards(3);
        C.range("told of board", 0, 2, 1, board -> C.statusOf(x, x.told(board, 0)));
        FairHall full = boards(24);
        C.range("told of 24 boards", 0, 23, 1, board -> C.statusOf(full, full.told(board, 5)));
    }

    private static void toldWhat() {
        FairHall x = boards(1);
        C.range("told what", 0, 5, 2, what -> C.statusOf(x, x.told(0, what)));
    }

    private static void toldJudgesThatMay() {
        FairHall x = boards(1);
        C.due("no judges", x, x.told(0, 5), 0, 0);
        for (int judge = 0; judge < 12; judge++) {
            x.judge(255, NONE, 0);
            C.due("as many judges as came", x, x.told(0, 5), judge + 1, 0);
        }
        FairHall y = boards(1);
        y.judge(254, NONE, 24);
        y.judge(1, 0, 24);
        C.due("judges that may not", y, y.told(0, 5), 0, 0);
    }

    // Part 1: "JUDGES, at most 12: FIELDS (1 for FIELD 0, 2 for 1, 4 for 2 ..), a SCHOOL (0 to 15, or NONE),
    // MOST (0 to 24): how many BOARDS at most."

    private static void judgesAtMost12() {
        FairHall x = boards(1);
        addJudges(x, 10, 0);
        C.due("judge 11 of 12", x, x.judge(1, NONE, 0), 10, 0);
        C.dueNone("a refused one has no number", x, x.judge(256, NONE, 0), 2);
        C.due("judge 12 of 12", x, x.judge(2, NONE, 0), 11, 0);
        C.dueNone("judge 13 of 12", x, x.judge(1, NONE, 0), 3);
        C.dueNone("judge 14 of 12", x, x.judge(1, NONE, 0), 3);
        C.dueNone("may of the one too many", x, x.may(12, 0), 1);
        C.due("the last one is as it was", x, x.may(11, 0), 0, 0);
        C.due("the first one is as it was", x, x.may(0, 0), 1, 0);
    }

    private static void fieldsOfAJudge() {
        C.range("fields", 0, 255, 2, fields -> takenJudge(fields, 1, 2));
    }

    private static int takenJudge(int fields, int school, int most) {
        FairHall x = new FairHall();
        int status = C.statusOf(x, x.judge(fields, school, most));
        if (status != 0) {
            C.due("a refused judge is none", x, x.judge(1, 0, 0), 0, 0);
        }
        return status;
    }

    private static void fieldsBitByBit() {
        FairHall x = new FairHall();
        for (int field = 0; field < 8; field++) {
            x.board(field, 0, 0, 0, false);
            x.judge(1 << field, NONE, 0);
        }
        x.judge(255, NONE, 0);
        x.judge(0, NONE, 0);
        for (int field = 0; field < 8; field++) {
            for (int judge = 0; judge < 8; judge++) {
                C.due("a judge of field " + judge + ", a board of " + field, x, x.may(judge, field),
                        judge == field ? 1 : 0, 0);
            }
            C.due("a judge of all fields", x, x.may(8, field), 1, 0);
            C.due("a judge of no field", x, x.may(9, field), 0, 0);
        }
    }

    private static void schoolOfAJudge() {
        C.range("school of a judge", NONE, 15, 2, school -> takenJudge(1, school, 2));
    }

    // Part 1: "A JUDGE MAY see a BOARD, if it has one of the FIELDS and not the JUDGE's SCHOOL."

    private static void mayNotSeeItsSchool() {
        for (int school : new int[] {0, 1, 14, 15}) {
            FairHall x = new FairHall();
            x.board(7, 0, school, 0, false);
            for (int other : new int[] {NONE, 0, 1, 14, 15}) {
                int judge = x.judge(128, other, 0);
                C.due("a judge of school " + other + ", a board of " + school, x, x.may(judge, 0),
                        other == school ? 0 : 1, 0);
            }
        }
    }

    private static void mayOfSuchOnes() {
        FairHall x = boards(2);
        addJudges(x, 3, 0);
        C.range("may of judge", 0, 2, 1, judge -> C.statusOf(x, x.may(judge, 1)));
        C.range("may of board", 0, 1, 1, board -> C.statusOf(x, x.may(2, board)));
        C.dueNone("may of neither", x, x.may(MIN, MAX), 1);
    }

    private static void mostOfAJudge() {
        C.range("most", 0, 24, 2, most -> takenJudge(1, NONE, most));
    }

    private static void noMoreThanMost() {
        for (int most : new int[] {0, 1, 2, 23, 24}) {
            FairHall x = boards(24);
            x.looks(1);
            x.judge(1, NONE, most);
            C.due("a plan with a most of " + most, x, x.plan(), 24 - most, 0);
            for (int board = 0; board < 24; board++) {
                C.due("most " + most + ": sees(0, " + board + ")", x, x.sees(0, board), board < most ? 1 : 0, 0);
            }
        }
    }

    // Part 1: "LOOKS: so many different JUDGES that MAY should see each BOARD (1 to 4; 2 at first)."

    private static void looksFrom1To4() {
        FairHall x = boards(1);
        int[] kept = {2};
        C.range("looks", 1, 4, 2, many -> {
            int status = C.statusOf(x, x.looks(many));
            kept[0] = status == 0 ? many : kept[0];
            C.due("looks behind looks(" + many + ")", x.plan(), kept[0]);
            return status;
        });
    }

    private static void looksAre2AtFirst() {
        FairHall x = boards(1);
        addJudges(x, 3, 1);
        C.due("a plan with the looks at first", x, x.plan(), 0, 0);
        duePlan("looks at first", x, "110");
    }

    // Part 1: "A PLAN: for each BOARD which JUDGES see it, no more than LOOKS, each JUDGE no more than MOST."

    private static void noMoreThanLooks() {
        String[] want = {"", "100000000000", "110000000000", "111000000000", "111100000000"};
        for (int many = 1; many <= 4; many++) {
            FairHall x = boards(1);
            addJudges(x, 12, 24);
            x.looks(many);
            C.due("a plan of " + many + " looks", x, x.plan(), 0, 0);
            duePlan(many + " looks", x, want[many]);
        }
    }

    private static void differentJudges() {
        for (int many = 1; many <= 4; many++) {
            FairHall x = boards(1);
            x.judge(1, NONE, 24);
            x.looks(many);
            C.due("one judge looks once: " + many, x, x.plan(), many - 1, 0);
            duePlan("one judge", x, "1");
        }
    }

    // Promise 8: "The BEST PLAN is found and kept: how many looks lack in all."

    private static void planWithNoBoards() {
        FairHall x = new FairHall();
        C.due("a plan of nothing", x, x.plan(), 0, 0);
        C.dueNone("it is kept: sees()", x, x.sees(0, 0), 1);
        C.dueNone("it is kept: holds()", x, x.holds(0), 1);
        addJudges(x, 12, 24);
        x.looks(4);
        C.due("a plan with no boards", x, x.plan(), 0, 0);
        C.dueNone("it has no boards", x, x.sees(0, 0), 1);
        C.dueNone("none holds", x, x.holds(0), 1);
    }

    private static void planWithNoJudges() {
        FairHall x = boards(24);
        C.due("a plan with no judges", x, x.plan(), 48, 0);
        C.dueNone("it has no judges", x, x.sees(0, 0), 1);
        dueHolding("no judges", x, "1".repeat(24));
        x.looks(4);
        C.due("a plan with no judges and four looks", x, x.plan(), 96, 0);
    }

    private static void planWithAMostOf0() {
        FairHall x = boards(2);
        x.judge(1, NONE, 0);
        C.due("a plan with a most of 0", x, x.plan(), 4, 0);
        duePlan("a most of 0", x, "0", "0");
        dueHolding("a most of 0", x, "11");
        x.judge(1, NONE, 1);
        C.due("a plan with a judge more", x, x.plan(), 3, 0);
        duePlan("mosts of 0 and 1", x, "01", "00");
    }

    private static void planOfNoneThatMay() {
        FairHall x = boards(1);
        x.judge(254, NONE, 24);
        x.judge(1, 0, 24);
        x.looks(1);
        C.due("a plan with none that may", x, x.plan(), 1, 0);
        duePlan("none that may", x, "00");
        dueHolding("none that may", x, "1");
    }

    // Part 1: "The BEST PLAN has the most looks in all; of several the first: BOARD by BOARD, JUDGE by JUDGE, one
    // that sees is ahead of one that does not."

    private static void mostLooksAheadOfTheFirst() {
        FairHall x = new FairHall();
        x.board(0, 0, 0, 0, false);
        x.board(1, 0, 0, 0, false);
        x.judge(3, NONE, 1);
        x.judge(1, NONE, 1);
        x.looks(1);
        C.due("two looks can be had", x, x.plan(), 0, 0);
        duePlan("the most looks", x, "01", "10");
    }

    private static void firstBoardByBoard() {
        FairHall x = boards(3);
        x.judge(1, NONE, 2);
        x.looks(1);
        C.due("two looks for three boards", x, x.plan(), 1, 0);
        duePlan("the first boards", x, "1", "1", "0");
        x.looks(2);
        x.judge(1, NONE, 2);
        C.due("four looks for six", x, x.plan(), 2, 0);
        duePlan("the first boards to the full", x, "11", "11", "00");
    }

    private static void firstJudgeByJudge() {
        FairHall x = boards(2);
        addJudges(x, 3, 1);
        x.looks(1);
        C.due("three judges for two boards", x, x.plan(), 0, 0);
        duePlan("the first judges", x, "100", "010");
        FairHall y = boards(2);
        addJudges(y, 2, 2);
        y.looks(1);
        C.due("two judges for both boards", y, y.plan(), 0, 0);
        duePlan("the first judge for both", y, "10", "10");
    }

    /**
     * Board i may be seen by judges 0 to i alone, and board 0 comes last: its only judge is taken then, and each of
     * the twelve judges goes on to the next board. Two boards share a field, and a school keeps one judge from one.
     */
    private static void longestExchange() {
        FairHall x = new FairHall();
        for (int i = 1; i <= 12; i++) {
            int board = i % 12;
            x.board(board / 2, 0, board % 2 == 0 ? board / 2 + 1 : 0, 0, false);
        }
        for (int judge = 0; judge < 12; judge++) {
            x.judge(255 << judge / 2 & 255, judge % 2 == 1 ? judge / 2 + 1 : NONE, 1);
        }
        x.looks(1);
        C.due("twelve judges for twelve boards", x, x.plan(), 0, 0);
        for (int i = 1; i <= 12; i++) {
            for (int judge = 0; judge < 12; judge++) {
                C.due("may(" + judge + ", " + (i - 1) + ")", x.may(judge, i - 1), judge <= i % 12 ? 1 : 0);
                C.due("sees(" + judge + ", " + (i - 1) + ")", x.sees(judge, i - 1), judge == i % 12 ? 1 : 0);
            }
        }
    }

    /** Every way in which three judges may see three boards, held against all 512 plans that there are. */
    private static void allPlansOfThreeByThree() {
        int[][] mosts = {{1, 1, 1}, {2, 1, 0}, {0, 1, 2}, {1, 2, 1}, {3, 3, 3}};
        for (int may = 0; may < 512; may++) {
            for (int[] most : mosts) {
                FairHall x = new FairHall();
                for (int i = 0; i < 3; i++) {
                    x.board(i, 0, 0, 0, false);
                }
                for (int judge = 0; judge < 3; judge++) {
                    int fields = may >> judge & 1 | (may >> 3 + judge & 1) << 1 | (may >> 6 + judge & 1) << 2;
                    x.judge(fields, NONE, most[judge]);
                }
                for (int looks = 1; looks <= 3; looks++) {
                    x.looks(looks);
                    int best = bestOfAll(may, most, looks);
                    C.due("plan() of " + may, x, x.plan(), 3 * looks - Integer.bitCount(best), 0);
                    dueBest(x, may, best, looks);
                }
            }
        }
    }

    /** Board by board three bits, the lowest judge 0; of as many looks the first from bit 0 on. */
    private static int bestOfAll(int may, int[] most, int looks) {
        int best = 0;
        for (int plan = 0; plan < 512; plan++) {
            boolean can = (plan & ~may) == 0;
            for (int i = 0; i < 3; i++) {
                can &= Integer.bitCount(plan >> 3 * i & 7) <= looks;
                can &= Integer.bitCount(plan >> i & 0b001001001) <= most[i];
            }
            int more = Integer.bitCount(plan) - Integer.bitCount(best);
            boolean ahead = Integer.reverse(plan) >>> 1 > Integer.reverse(best) >>> 1;
            if (can && (more > 0 || more == 0 && ahead)) {
                best = plan;
            }
        }
        return best;
    }

    private static void dueBest(FairHall x, int may, int best, int looks) {
        boolean[] holding = new boolean[3];
        for (int board = 0; board < 3; board++) {
            holding[board] = Integer.bitCount(best >> 3 * board & 7) < looks;
        }
        for (int step = 0; step < 27; step++) {
            int from = step / 3 % 3;
            for (int judge = 0; judge < 3; judge++) {
                boolean way = ((may & ~best) >> 3 * from + judge & 1) == 1 && (best >> 3 * (step % 3) + judge & 1) == 1;
                holding[step % 3] |= holding[from] && way;
            }
        }
        for (int board = 0; board < 3; board++) {
            C.due("holds(" + board + ") of " + may, x.holds(board), holding[board] ? 1 : 0);
            for (int judge = 0; judge < 3; judge++) {
                C.due("sees(" + judge + ", " + board + ") of " + may, x.sees(judge, board),
                        best >> 3 * board + judge & 1);
            }
        }
    }

    private static void fullPlan() {
        FairHall x = boards(24);
        addJudges(x, 4, 24);
        x.looks(4);
        C.due("96 looks", x, x.plan(), 0, 0);
        for (int board = 0; board < 24; board++) {
            for (int judge = 0; judge < 4; judge++) {
                C.due("96 looks: sees(" + judge + ", " + board + ")", x.sees(judge, board), 1);
            }
        }
    }

    // Promise 8: "It stays as it is till the next plan(); BOARDS and JUDGES that come later are not in it."

    private static void planStaysTillTheNext() {
        FairHall x = boards(2);
        x.judge(1, NONE, 1);
        x.looks(1);
        C.due("the plan", x, x.plan(), 1, 0);
        x.looks(4);
        addJudges(x, 11, 24);
        x.board(0, 0, 0, 0, false);
        x.mark(0, 1, 50, 0);
        x.hall(24, 999, 24);
        x.looks(0);
        x.told(99, 0);
        duePlan("the plan kept", x, "1", "0");
        dueHolding("the plan kept", x, "11");
        C.due("the next plan", x, x.plan(), 0, 0);
        duePlan("the next plan", x, "111100000000", "011110000000", "011110000000");
        dueHolding("the next plan", x, "000");
    }

    private static void laterOnesAreNotInThePlan() {
        FairHall x = boards(23);
        addJudges(x, 11, 24);
        x.plan();
        x.board(0, 0, 0, 0, false);
        x.judge(1, NONE, 24);
        C.due("the last board in it", x, x.sees(10, 22), 0, 0);
        C.dueNone("a board that came later", x, x.sees(0, 23), 1);
        C.dueNone("a judge that came later", x, x.sees(11, 0), 1);
        C.dueNone("both came later", x, x.sees(11, 23), 1);
        C.dueNone("a later board does not hold", x, x.holds(23), 1);
        C.due("the last board that was there", x, x.holds(22), 0, 0);
        x.plan();
        C.due("the next plan has both", x, x.sees(11, 23), 0, 0);
        C.due("the next plan has the board", x, x.sees(0, 23), 1, 0);
        C.due("the next plan tells of it", x, x.holds(23), 0, 0);
    }

    // Promise 9: "(4; 1: none such, or one that is not in it; in this order)"

    private static void seesWithoutAPlan() {
        FairHall x = boards(2);
        addJudges(x, 2, 2);
        C.dueNone("sees of both without a plan", x, x.sees(0, 0), 4);
        C.refusedOutside("sees without a plan, judge", 0, 1, 4, judge -> C.statusOf(x, x.sees(judge, 0)));
        C.refusedOutside("sees without a plan, board", 0, 1, 4, board -> C.statusOf(x, x.sees(0, board)));
    }

    private static void seesOfSuchOnes() {
        FairHall x = boards(2);
        addJudges(x, 3, 2);
        x.plan();
        C.range("sees, judge", 0, 2, 1, judge -> C.statusOf(x, x.sees(judge, 1)));
        C.range("sees, board", 0, 1, 1, board -> C.statusOf(x, x.sees(2, board)));
        C.dueNone("sees of neither", x, x.sees(MIN, MAX), 1);
        FairHall full = boards(24);
        addJudges(full, 12, 24);
        full.plan();
        C.range("sees, 12 judges", 0, 11, 1, judge -> C.statusOf(full, full.sees(judge, 23)));
        C.range("sees, 24 boards", 0, 23, 1, board -> C.statusOf(full, full.sees(11, board)));
    }

    // Promise 10: "Whether a BOARD was HOLDING as the PLAN kept was found: 1 or 0 (as sees())."

    private static void holdsWithoutAPlan() {
        FairHall x = boards(2);
        C.dueNone("holds without a plan", x, x.holds(0), 4);
        C.refusedOutside("holds without a plan, board", 0, 1, 4, board -> C.statusOf(x, x.holds(board)));
    }

    private static void holdsOfSuchABoard() {
        FairHall x = boards(24);
        x.plan();
        C.range("holds, board", 0, 23, 1, board -> C.statusOf(x, x.holds(board)));
        FairHall y = boards(1);
        y.plan();
        C.range("holds, one board", 0, 0, 1, board -> C.statusOf(y, y.holds(board)));
    }

    // Part 1: "HOLDING are, with the BEST PLAN, the BOARDS that lack looks, and all to which one comes from these:
    // from a BOARD to a JUDGE that MAY see it and does not, from a JUDGE to a BOARD that it sees."

    private static void holdingNoneWhereNoneLacks() {
        FairHall x = boards(24);
        addJudges(x, 12, 8);
        x.looks(4);
        C.due("nothing lacks", x, x.plan(), 0, 0);
        dueHolding("nothing lacks", x, "0".repeat(24));
    }

    private static void holdingAllThatLack() {
        FairHall x = new FairHall();
        x.board(0, 0, 0, 0, false);
        x.board(1, 0, 0, 0, false);
        x.board(2, 0, 0, 0, false);
        x.judge(1, NONE, 1);
        x.judge(5, NONE, 2);
        C.due("one look and two lack", x, x.plan(), 3, 0);
        dueHolding("those that lack one or two", x, "011");
    }

    private static void holdingByJudgesThatDoNotSee() {
        FairHall x = new FairHall();
        x.board(0, 0, 0, 0, false);
        x.board(1, 0, 0, 0, false);
        x.judge(3, NONE, 2);
        x.judge(2, NONE, 2);
        C.due("board 0 lacks one", x, x.plan(), 1, 0);
        duePlan("judge 0 sees both", x, "10", "11");
        dueHolding("no way by a judge that sees the board", x, "10");
    }

    private static void holdingByBoardsThatAreSeen() {
        FairHall x = new FairHall();
        x.board(0, 0, 5, 0, false);
        x.board(0, 0, 5, 0, false);
        x.board(0, 0, 0, 0, false);
        x.judge(1, NONE, 1);
        x.judge(1, 5, 24);
        x.looks(1);
        C.due("board 1 lacks one", x, x.plan(), 1, 0);
        duePlan("judge 0 sees board 0", x, "10", "00", "01");
        dueHolding("no way to a board that the judge may see and does not", x, "110");
    }

    private static void holdingByJudgesThatMay() {
        FairHall x = new FairHall();
        x.board(0, 0, 0, 0, false);
        x.board(0, 0, 1, 0, false);
        x.judge(1, 1, 1);
        x.looks(1);
        C.due("board 1 lacks one", x, x.plan(), 1, 0);
        dueHolding("no way by a judge that may not", x, "01");
    }

    private static void holdingAlongAChain() {
        FairHall x = new FairHall();
        for (int field = 0; field < 8; field++) {
            x.board(field, 0, 0, 0, false);
        }
        for (int field = 0; field < 7; field++) {
            x.judge(3 << field, NONE, 1);
        }
        x.looks(1);
        C.due("seven judges for eight boards", x, x.plan(), 1, 0);
        for (int board = 0; board < 8; board++) {
            for (int judge = 0; judge < 7; judge++) {
                C.due("chain: sees(" + judge + ", " + board + ")", x.sees(judge, board), judge == board ? 1 : 0);
            }
        }
        dueHolding("all along the chain", x, "11111111");
        x.judge(16, NONE, 1);
        C.due("a judge more ends it", x, x.plan(), 0, 0);
        dueHolding("none along the chain", x, "00000000");
    }

    /** Board 0 is held up by the plan that was found; later judges do not change that. */
    private static void holdingWithTheBestPlan() {
        FairHall x = boards(2);
        x.judge(1, NONE, 2);
        x.plan();
        dueHolding("as the plan was found", x, "11");
        x.judge(1, NONE, 2);
        x.looks(1);
        dueHolding("as it was found, still", x, "11");
        x.plan();
        dueHolding("the next one", x, "00");
    }
}
