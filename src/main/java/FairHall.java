/**
 * A fair of boards that judges look at: looks given out, marks put on one scale, prizes given
 * by texts, and boards laid into halls. What each call answers is said in the document's promises.
 *
 * All rows are made once, with the object: no call makes an object or an array of its own.
 */
public final class FairHall {
    public static final int NONE = -1;

    private static final int BOARDS = 24;
    private static final int JUDGES = 12;
    private static final int MARKS = 200;
    private static final int PRIZES = 8;
    private static final int HALLS = 4;
    private static final int TAPE = 300;
    private static final int LAST_DAY = 999;

    private static final int FINE = 0;
    private static final int NO_SUCH = 1;
    private static final int CANNOT_BE = 2;
    private static final int TOO_MANY = 3;
    private static final int NO_PLAN = 4;
    private static final int LOST_ALREADY = 5;
    private static final int NO_MARK = 6;
    private static final int FAULTY = 7;
    private static final int NOT_LAID = 8;
    private static final int GREAT = 9;
    private static final int SPENT = 10;

    private final Boards boards;
    private final Judges judges;
    private final Plan best;
    private final Marks marks;
    private final Known known;
    private final Scale scale;
    private final Fraction fraction;
    private final TextReader reader;
    private final Giver giver;
    private final Halls halls;
    private PrizeRows kept;
    private PrizeRows spare;
    private int looksDue;
    private int latest;

    public FairHall() {
        boards = new Boards();
        judges = new Judges();
        best = new Plan();
        marks = new Marks();
        known = new Known();
        scale = new Scale();
        fraction = new Fraction();
        reader = new TextReader();
        giver = new Giver();
        halls = new Halls();
        kept = new PrizeRows();
        spare = new PrizeRows();
        looksDue = 2;
        latest = FINE;
    }

    public int status() {
        return latest;
    }

    // ---- looks

    public int board(int field, int age, int school, int power, boolean water) {
        if (!within(field, 0, 7) || !within(age, 0, 3) || !within(school, 0, 15) || !within(power, 0, 99)) {
            return none(CANNOT_BE);
        }
        if (boards.count >= BOARDS) {
            return none(TOO_MANY);
        }
        return answer(boards.add(field, age, school, power, water));
    }

    public int judge(int fields, int school, int most) {
        if (!within(fields, 0, 255) || !within(school, NONE, 15) || !within(most, 0, BOARDS)) {
            return none(CANNOT_BE);
        }
        if (judges.count >= JUDGES) {
            return none(TOO_MANY);
        }
        return answer(judges.add(fields, school, most));
    }

    public int told(int board, int what) {
        if (!boards.has(board)) {
            return none(NO_SUCH);
        }
        if (!within(what, 0, 5)) {
            return none(CANNOT_BE);
        }
        if (what == 5) {
            return answer(Integer.bitCount(judges.allowedFor(boards, board)));
        }
        return answer(boards.trait(board, what));
    }

    public int may(int judge, int board) {
        if (!judges.has(judge) || !boards.has(board)) {
            return none(NO_SUCH);
        }
        return answer(judges.isAllowed(judge, boards, board) ? 1 : 0);
    }

    public boolean looks(int many) {
        if (!within(many, 1, 4)) {
            return no(CANNOT_BE);
        }
        looksDue = many;
        return yes();
    }

    public int plan() {
        best.begin(boards, judges, looksDue);
        best.giveAllLooks();
        best.turnToFirst();
        best.findHolding();
        return answer(best.lackInAll());
    }

    public int sees(int judge, int board) {
        if (!best.found) {
            return none(NO_PLAN);
        }
        if (!best.hasJudge(judge) || !best.hasBoard(board)) {
            return none(NO_SUCH);
        }
        return answer((best.seers[board] >> judge) & 1);
    }

    public int holds(int board) {
        if (!best.found) {
            return none(NO_PLAN);
        }
        if (!best.hasBoard(board)) {
            return none(NO_SUCH);
        }
        return answer((best.holding >> board) & 1);
    }

    // ---- marks

    public int mark(int judge, int board, int mark, int day) {
        if (!judges.has(judge) || !boards.has(board)) {
            return none(NO_SUCH);
        }
        if (!within(mark, 0, 100) || !isDay(day)) {
            return none(CANNOT_BE);
        }
        if (marks.count >= MARKS) {
            return none(TOO_MANY);
        }
        return answer(marks.add(judge, board, mark, day));
    }

    public boolean lose(int mark, int day) {
        if (!marks.has(mark)) {
            return no(NO_SUCH);
        }
        if (!isDay(day)) {
            return no(CANNOT_BE);
        }
        if (marks.lostOn[mark] != NONE) {
            return no(LOST_ALREADY);
        }
        marks.lostOn[mark] = day;
        return yes();
    }

    public int seen(int board, int day) {
        if (!boards.has(board)) {
            return none(NO_SUCH);
        }
        if (!isDay(day)) {
            return none(CANNOT_BE);
        }
        known.lookBack(marks, day);
        return answer(known.marksOf(board));
    }

    public int heap(int judge, int day) {
        int why = whyNoHeap(judge, day);
        return why == FINE ? answer(known.heapOf[judge]) : none(why);
    }

    public boolean hardness(int judge, int day) {
        int why = whyNoHeap(judge, day);
        if (why != FINE) {
            return no(why);
        }
        int heap = known.heapOf[judge];
        if (known.isGreat(heap)) {
            return no(GREAT);
        }
        scale.weigh(known, heap);
        fraction.become(scale.hardUpper[judge], scale.hardLower[judge]);
        return yes();
    }

    public boolean fair(int board, int day) {
        if (!boards.has(board)) {
            return no(NO_SUCH);
        }
        if (!isDay(day)) {
            return no(CANNOT_BE);
        }
        known.lookBack(marks, day);
        int heap = known.heapAround(board);
        if (heap == NONE) {
            return no(NO_MARK);
        }
        if (known.isGreat(heap)) {
            return no(GREAT);
        }
        scale.weigh(known, heap);
        scale.rate(known, board, fraction);
        return yes();
    }

    public long upper() {
        return fraction.over;
    }

    public long lower() {
        return fraction.under;
    }

    // ---- prizes

    public int feed(int a, int b, int c, int d, int e) {
        if (reader.length + 20 > TAPE) {
            return NONE;
        }
        reader.take(a);
        reader.take(b);
        reader.take(c);
        reader.take(d);
        reader.take(e);
        return reader.length;
    }

    public int prizes(int n) {
        if (!within(n, 0, reader.length)) {
            return none(CANNOT_BE);
        }
        // Read into the spare rows, so that a faulty text leaves the prizes that are kept.
        reader.read(n, spare);
        reader.length = 0;
        if (reader.faultKind != 0) {
            return none(FAULTY);
        }
        PrizeRows old = kept;
        kept = spare;
        spare = old;
        return answer(kept.count);
    }

    public int fault(int what) {
        if (what == 0) {
            return reader.faultKind;
        }
        return what == 1 ? reader.faultPlace : NONE;
    }

    public int given(int prize, int k, int day) {
        if (!kept.has(prize) || k < 0) {
            return none(NO_SUCH);
        }
        if (!isDay(day)) {
            return none(CANNOT_BE);
        }
        known.lookBack(marks, day);
        if (known.anyGreat()) {
            return none(GREAT);
        }
        scale.weighAll(known);
        giver.rank(known, scale);
        giver.give(kept, prize, boards, known);
        if (k >= giver.placeCount) {
            return none(NO_SUCH);
        }
        return answer(giver.places[k]);
    }

    // ---- halls

    public int hall(int places, int power, int water) {
        if (!within(places, 0, 24) || !within(power, 0, 999) || !within(water, 0, 24)) {
            return none(CANNOT_BE);
        }
        if (halls.count >= HALLS) {
            return none(TOO_MANY);
        }
        return answer(halls.add(places, power, water));
    }

    public boolean clear() {
        halls.removeAll();
        return yes();
    }

    public int laid(int board) {
        if (!boards.has(board)) {
            return none(NO_SUCH);
        }
        int outcome = halls.lay(boards);
        return outcome == FINE ? answer(halls.hallOf[board]) : none(outcome);
    }

    public int tries() {
        int outcome = halls.lay(boards);
        return outcome == FINE ? answer(halls.tryCount) : none(outcome);
    }

    // ---- answers

    private int answer(int value) {
        latest = FINE;
        return value;
    }

    private boolean yes() {
        latest = FINE;
        return true;
    }

    private int none(int why) {
        latest = why;
        return NONE;
    }

    private boolean no(int why) {
        latest = why;
        return false;
    }

    /** Looks back to the day too, so that the judge's heap is known where the answer is FINE. */
    private int whyNoHeap(int judge, int day) {
        if (!judges.has(judge)) {
            return NO_SUCH;
        }
        if (!isDay(day)) {
            return CANNOT_BE;
        }
        known.lookBack(marks, day);
        return known.heapOf[judge] == NONE ? NO_MARK : FINE;
    }

    private static boolean within(int value, int least, int greatest) {
        return value >= least && value <= greatest;
    }

    private static boolean isDay(int day) {
        return within(day, 0, LAST_DAY);
    }

    private static int lowestBit(int bits) {
        return bits == 0 ? NONE : Integer.bitCount((bits & -bits) - 1);
    }

    /** The boards of the fair, numbered as they came. */
    private static final class Boards {
        int count;
        final int[] field = new int[BOARDS];
        final int[] age = new int[BOARDS];
        final int[] school = new int[BOARDS];
        final int[] power = new int[BOARDS];
        final int[] water = new int[BOARDS];

        boolean has(int board) {
            return board >= 0 && board < count;
        }

        int add(int itsField, int itsAge, int itsSchool, int itsPower, boolean hasWater) {
            int board = count;
            field[board] = itsField;
            age[board] = itsAge;
            school[board] = itsSchool;
            power[board] = itsPower;
            water[board] = hasWater ? 1 : 0;
            count++;
            return board;
        }

        int trait(int board, int what) {
            switch (what) {
                case 0:
                    return field[board];
                case 1:
                    return age[board];
                case 2:
                    return school[board];
                case 3:
                    return power[board];
                default:
                    return water[board];
            }
        }
    }

    /** The judges of the fair, numbered as they came. */
    private static final class Judges {
        int count;
        final int[] fields = new int[JUDGES];
        final int[] school = new int[JUDGES];
        final int[] most = new int[JUDGES];

        boolean has(int judge) {
            return judge >= 0 && judge < count;
        }

        int add(int itsFields, int itsSchool, int itsMost) {
            int judge = count;
            fields[judge] = itsFields;
            school[judge] = itsSchool;
            most[judge] = itsMost;
            count++;
            return judge;
        }

        boolean isAllowed(int judge, Boards boards, int board) {
            boolean knowsField = ((fields[judge] >> boards.field[board]) & 1) == 1;
            return knowsField && school[judge] != boards.school[board];
        }

        /** A bit for each judge that may see the board. */
        int allowedFor(Boards boards, int board) {
            int bits = 0;
            for (int judge = 0; judge < count; judge++) {
                if (isAllowed(judge, boards, board)) {
                    bits |= 1 << judge;
                }
            }
            return bits;
        }
    }

    /**
     * The plan kept. It is filled to the most looks by chains of exchanges, and then turned, pair
     * by pair, to the first of the plans with as many looks. Sets of boards or judges are bits.
     */
    private static final class Plan {
        boolean found;
        int boardCount;
        int judgeCount;
        int looksDue;
        int holding;
        final int[] most = new int[JUDGES];
        final int[] allowed = new int[BOARDS];
        final int[] seers = new int[BOARDS];
        final int[] shown = new int[JUDGES];

        // Pairs ahead of (openBoard, openJudge) are settled: no exchange touches them any more.
        private int openBoard;
        private int openJudge;

        private int reachedBoards;
        private int reachedJudges;
        private int waitingCount;
        private final int[] waiting = new int[BOARDS];
        private final int[] judgeBefore = new int[BOARDS];
        private final int[] boardBefore = new int[JUDGES];

        boolean hasBoard(int board) {
            return board >= 0 && board < boardCount;
        }

        boolean hasJudge(int judge) {
            return judge >= 0 && judge < judgeCount;
        }

        void begin(Boards boards, Judges judges, int looks) {
            found = true;
            boardCount = boards.count;
            judgeCount = judges.count;
            looksDue = looks;
            openBoard = 0;
            openJudge = 0;
            for (int board = 0; board < boardCount; board++) {
                allowed[board] = judges.allowedFor(boards, board);
                seers[board] = 0;
            }
            for (int judge = 0; judge < judgeCount; judge++) {
                most[judge] = judges.most[judge];
                shown[judge] = 0;
            }
        }

        void giveAllLooks() {
            boolean more = true;
            for (int i = 0; i < BOARDS * JUDGES && more; i++) {
                more = addLook();
            }
        }

        void turnToFirst() {
            for (int board = 0; board < boardCount; board++) {
                for (int judge = 0; judge < judgeCount; judge++) {
                    openBoard = board;
                    openJudge = judge + 1;
                    if ((((allowed[board] & ~seers[board]) >> judge) & 1) == 1) {
                        prefer(board, judge);
                    }
                }
            }
        }

        /** With the most looks no judge with room is reached, so that all that is reached holds. */
        void findHolding() {
            openBoard = 0;
            openJudge = 0;
            reachRoom();
            holding = reachedBoards;
        }

        int lackInAll() {
            int lack = 0;
            for (int board = 0; board < boardCount; board++) {
                lack += looksDue - Integer.bitCount(seers[board]);
            }
            return lack;
        }

        /** Lets the judge see the board if as many looks can be had with it and all that is settled. */
        private void prefer(int board, int judge) {
            boolean judgeGoes = !lacks(board);
            boolean boardGoes = !hasRoom(judge);
            int otherJudge = lowestBit(seers[board] & openJudges(board));
            int otherBoard = lowestBit(shown[judge] & openBoards(judge));
            if ((judgeGoes && otherJudge == NONE) || (boardGoes && otherBoard == NONE)) {
                return;
            }
            if (judgeGoes) {
                part(board, otherJudge);
            }
            if (boardGoes) {
                part(otherBoard, judge);
            }
            join(board, judge);
            // Two looks went for one only where both were full: one more must then be found.
            if (judgeGoes && boardGoes && !addLook()) {
                part(board, judge);
                join(board, otherJudge);
                join(otherBoard, judge);
            }
        }

        private boolean addLook() {
            int taker = reachRoom();
            if (taker == NONE) {
                return false;
            }
            for (int i = 0; i < JUDGES && taker != NONE; i++) {
                int board = boardBefore[taker];
                int goer = judgeBefore[board];
                if (goer != NONE) {
                    part(board, goer);
                }
                join(board, taker);
                taker = goer;
            }
            return true;
        }

        /** The first judge with room that exchanges lead to from the boards that lack looks, or NONE. */
        private int reachRoom() {
            startAtLacking();
            for (int next = 0; next < waitingCount && next < BOARDS; next++) {
                int board = waiting[next];
                int ways = allowed[board] & ~seers[board] & openJudges(board) & ~reachedJudges;
                for (int judge = 0; judge < judgeCount && ways != 0; judge++) {
                    if (((ways >> judge) & 1) == 1) {
                        reachedJudges |= 1 << judge;
                        boardBefore[judge] = board;
                        if (hasRoom(judge)) {
                            return judge;
                        }
                        reachShown(judge);
                    }
                }
            }
            return NONE;
        }

        private void startAtLacking() {
            reachedBoards = 0;
            reachedJudges = 0;
            waitingCount = 0;
            for (int board = 0; board < boardCount; board++) {
                if (lacks(board)) {
                    reach(board, NONE);
                }
            }
        }

        private void reachShown(int judge) {
            int ways = shown[judge] & openBoards(judge) & ~reachedBoards;
            for (int board = 0; board < boardCount && ways != 0; board++) {
                if (((ways >> board) & 1) == 1) {
                    reach(board, judge);
                }
            }
        }

        private void reach(int board, int judge) {
            if (waitingCount < BOARDS) {
                reachedBoards |= 1 << board;
                judgeBefore[board] = judge;
                waiting[waitingCount] = board;
                waitingCount++;
            }
        }

        private boolean lacks(int board) {
            return Integer.bitCount(seers[board]) < looksDue;
        }

        private boolean hasRoom(int judge) {
            return Integer.bitCount(shown[judge]) < most[judge];
        }

        private int openJudges(int board) {
            if (board < openBoard) {
                return 0;
            }
            return board > openBoard ? -1 : -1 << openJudge;
        }

        private int openBoards(int judge) {
            return judge < openJudge ? -1 << (openBoard + 1) : -1 << openBoard;
        }

        private void join(int board, int judge) {
            seers[board] |= 1 << judge;
            shown[judge] |= 1 << board;
        }

        private void part(int board, int judge) {
            seers[board] &= ~(1 << judge);
            shown[judge] &= ~(1 << board);
        }
    }

    /** All marks that were ever told, the lost ones too. */
    private static final class Marks {
        int count;
        final int[] judge = new int[MARKS];
        final int[] board = new int[MARKS];
        final int[] points = new int[MARKS];
        final int[] toldOn = new int[MARKS];
        final int[] lostOn = new int[MARKS];

        boolean has(int mark) {
            return mark >= 0 && mark < count;
        }

        int add(int itsJudge, int itsBoard, int itsPoints, int day) {
            int mark = count;
            judge[mark] = itsJudge;
            board[mark] = itsBoard;
            points[mark] = itsPoints;
            toldOn[mark] = day;
            lostOn[mark] = NONE;
            count++;
            return mark;
        }

        boolean standsOn(int mark, int day) {
            return toldOn[mark] <= day && (lostOn[mark] == NONE || lostOn[mark] > day);
        }
    }

    /** The marks that count, and the heaps of judges, as known on the day last looked back to. */
    private static final class Known {
        private static final int MOST_IN_HEAP = 5;

        final int[] heapOf = new int[JUDGES];
        private final int[] points = new int[JUDGES * BOARDS];
        private final int[] toldOn = new int[JUDGES * BOARDS];

        void lookBack(Marks marks, int day) {
            takeLatest(marks, day);
            formHeaps();
        }

        /** The points of the judge's mark for the board, NONE where none counts. */
        int pointsOf(int judge, int board) {
            return points[judge * BOARDS + board];
        }

        int marksOf(int board) {
            int many = 0;
            for (int judge = 0; judge < JUDGES; judge++) {
                if (pointsOf(judge, board) != NONE) {
                    many++;
                }
            }
            return many;
        }

        /** The heap of the judges that marked the board, NONE where none did. */
        int heapAround(int board) {
            for (int judge = 0; judge < JUDGES; judge++) {
                if (pointsOf(judge, board) != NONE) {
                    return heapOf[judge];
                }
            }
            return NONE;
        }

        boolean isGreat(int heap) {
            int many = 0;
            for (int judge = 0; judge < JUDGES; judge++) {
                if (heapOf[judge] == heap) {
                    many++;
                }
            }
            return many > MOST_IN_HEAP;
        }

        boolean anyGreat() {
            for (int judge = 0; judge < JUDGES; judge++) {
                if (heapOf[judge] == judge && isGreat(judge)) {
                    return true;
                }
            }
            return false;
        }

        private void takeLatest(Marks marks, int day) {
            for (int cell = 0; cell < JUDGES * BOARDS; cell++) {
                points[cell] = NONE;
            }
            for (int mark = 0; mark < marks.count; mark++) {
                int cell = marks.judge[mark] * BOARDS + marks.board[mark];
                // Marks come by number: of one day the later one takes the place.
                boolean latest = points[cell] == NONE || toldOn[cell] <= marks.toldOn[mark];
                if (latest && marks.standsOn(mark, day)) {
                    points[cell] = marks.points[mark];
                    toldOn[cell] = marks.toldOn[mark];
                }
            }
        }

        /** A heap bears the number of its least judge. */
        private void formHeaps() {
            for (int judge = 0; judge < JUDGES; judge++) {
                heapOf[judge] = NONE;
            }
            for (int board = 0; board < BOARDS; board++) {
                int first = NONE;
                for (int judge = 0; judge < JUDGES; judge++) {
                    if (pointsOf(judge, board) != NONE) {
                        if (heapOf[judge] == NONE) {
                            heapOf[judge] = judge;
                        }
                        first = first == NONE ? judge : first;
                        joinHeaps(heapOf[first], heapOf[judge]);
                    }
                }
            }
        }

        private void joinHeaps(int one, int other) {
            int least = Math.min(one, other);
            int greatest = Math.max(one, other);
            for (int judge = 0; judge < JUDGES && least < greatest; judge++) {
                if (heapOf[judge] == greatest) {
                    heapOf[judge] = least;
                }
            }
        }
    }

    /**
     * The hardness of the judges of heaps that are not great, by Cramer's rule on whole numbers.
     * Products may wrap around on the way; the determinants themselves stay far inside a long
     * (hardness is a mean over trees of shared boards, so no more than 400 times the lower number).
     */
    private static final class Scale {
        private static final int SIZE = 5;
        private static final int RIGHT = 5;
        // A multiple of 1 to 5, the number of marks that one board can have in a heap.
        private static final int UNIT = 60;

        final long[] hardUpper = new long[JUDGES];
        // The same for all judges of a heap: it is left uncancelled for that.
        final long[] hardLower = new long[JUDGES];
        private int size;
        private final int[] member = new int[SIZE];
        private final long[][] rows = new long[SIZE][SIZE + 1];
        private final long[] minors = new long[1 << SIZE];

        void weighAll(Known known) {
            for (int judge = 0; judge < JUDGES; judge++) {
                if (known.heapOf[judge] == judge) {
                    weigh(known, judge);
                }
            }
        }

        void weigh(Known known, int heap) {
            gather(known, heap);
            setRows(known);
            long whole = determinant(NONE);
            for (int i = 0; i < size; i++) {
                long part = determinant(i);
                hardUpper[member[i]] = whole < 0 ? -part : part;
                hardLower[member[i]] = Math.abs(whole);
            }
        }

        /** The board's fair, where the heap around it was weighed. */
        void rate(Known known, int board, Fraction into) {
            long sum = 0;
            long all = 0;
            for (int judge = 0; judge < JUDGES; judge++) {
                int points = known.pointsOf(judge, board);
                if (points != NONE) {
                    sum += points * hardLower[judge] - hardUpper[judge];
                    all += hardLower[judge];
                }
            }
            into.become(sum, all);
        }

        private void gather(Known known, int heap) {
            size = 0;
            for (int judge = 0; judge < JUDGES; judge++) {
                if (known.heapOf[judge] == heap && size < SIZE) {
                    member[size] = judge;
                    size++;
                }
            }
        }

        /** One equation a judge, but for the last: it follows from the others, and the sum 0 stands there. */
        private void setRows(Known known) {
            for (int i = 0; i < size; i++) {
                for (int k = 0; k <= RIGHT; k++) {
                    rows[i][k] = 0;
                }
            }
            for (int board = 0; board < BOARDS; board++) {
                addBoard(known, board);
            }
            int last = size - 1;
            for (int k = 0; k <= RIGHT && last >= 0; k++) {
                rows[last][k] = k == RIGHT ? 0 : 1;
            }
        }

        private void addBoard(Known known, int board) {
            int many = 0;
            int total = 0;
            for (int i = 0; i < size; i++) {
                int points = known.pointsOf(member[i], board);
                if (points != NONE) {
                    many++;
                    total += points;
                }
            }
            int share = many == 0 ? 0 : UNIT / many;
            for (int i = 0; i < size && many > 1; i++) {
                int points = known.pointsOf(member[i], board);
                if (points != NONE) {
                    rows[i][i] += UNIT;
                    rows[i][RIGHT] += UNIT * points - share * total;
                    takeShares(known, board, i, share);
                }
            }
        }

        private void takeShares(Known known, int board, int i, int share) {
            for (int k = 0; k < size; k++) {
                if (known.pointsOf(member[k], board) != NONE) {
                    rows[i][k] -= share;
                }
            }
        }

        /** With the right side in place of one column, or of none. */
        private long determinant(int replaced) {
            int all = (1 << size) - 1;
            minors[0] = 1;
            for (int columns = 1; columns <= all; columns++) {
                minors[columns] = minor(columns, replaced);
            }
            return minors[all];
        }

        /** Of as many first rows as there are columns, by the last of them. */
        private long minor(int columns, int replaced) {
            int row = Integer.bitCount(columns) - 1;
            long sum = 0;
            for (int column = 0; column < size; column++) {
                if (((columns >> column) & 1) == 1) {
                    long entry = rows[row][column == replaced ? RIGHT : column];
                    long product = entry * minors[columns & ~(1 << column)];
                    int behind = Integer.bitCount(columns >> (column + 1));
                    sum += (behind & 1) == 0 ? product : -product;
                }
            }
            return sum;
        }
    }

    /** Without a common divisor, the lower number above 0. */
    private static final class Fraction {
        // Far more steps than Euclid's way takes with any two longs.
        private static final int STEPS = 200;

        long over = 0;
        long under = 1;

        void become(long newOver, long newUnder) {
            long divisor = commonDivisor(Math.abs(newOver), newUnder);
            if (newUnder > 0 && divisor > 0) {
                over = newOver / divisor;
                under = newUnder / divisor;
            }
        }

        /** Part by part as continued fractions, since products of two lower numbers can be too great. */
        boolean isAbove(Fraction other) {
            long a = over;
            long b = under;
            long c = other.over;
            long d = other.under;
            boolean turned = false;
            for (int i = 0; i < STEPS && b > 0 && d > 0; i++) {
                long whole = Math.floorDiv(a, b);
                long otherWhole = Math.floorDiv(c, d);
                if (whole != otherWhole) {
                    return (whole > otherWhole) != turned;
                }
                long rest = a - whole * b;
                long otherRest = c - otherWhole * d;
                a = b;
                b = rest;
                c = d;
                d = otherRest;
                turned = !turned;
            }
            // One without a rest is as great as can be behind the turn, unless both are.
            return b != d && (b == 0) != turned;
        }

        private static long commonDivisor(long one, long other) {
            long a = one;
            long b = other;
            for (int i = 0; i < STEPS && b > 0; i++) {
                long rest = a % b;
                a = b;
                b = rest;
            }
            return a;
        }
    }

    /** The prizes of one text. */
    private static final class PrizeRows {
        static final int FIELD = 0;
        static final int AGE = 1;
        static final int SCHOOL = 2;
        static final int SEEN = 3;
        static final int WISHES = 4;

        int count;
        final int[] best = new int[PRIZES];
        final boolean[] alone = new boolean[PRIZES];
        // By kind of wish, then by prize; NONE where it is not told.
        final int[][] wish = new int[WISHES][PRIZES];

        boolean has(int prize) {
            return prize >= 0 && prize < count;
        }

        void addEmpty() {
            if (count < PRIZES) {
                for (int kind = 0; kind < WISHES; kind++) {
                    wish[kind][count] = NONE;
                }
                alone[count] = false;
                count++;
            }
        }

        boolean isWished(int prize, Boards boards, int board, int marks) {
            return meets(FIELD, prize, boards.field[board])
                    && meets(AGE, prize, boards.age[board])
                    && meets(SCHOOL, prize, boards.school[board])
                    && marks >= Math.max(1, wish[SEEN][prize]);
        }

        private boolean meets(int kind, int prize, int value) {
            return wish[kind][prize] == NONE || wish[kind][prize] == value;
        }
    }

    /** The tape, and the reading of a text on it, token by token, till the first fault. */
    private static final class TextReader {
        private static final int END = 0;
        private static final int WORD = 1;
        private static final int NUMBER = 2;
        private static final int STOP = 3;

        private static final int NO_TOKEN = 1;
        private static final int MISPLACED = 2;
        private static final int NINTH = 3;
        private static final int OUT_OF_RANGE = 4;
        private static final int TOLD_TWICE = 5;

        private static final int MOST_DIGITS = 3;
        private static final int[] LEAST_WISH = {0, 0, 0, 1};
        private static final int[] GREATEST_WISH = {7, 3, 15, 12};

        int length;
        int faultKind = NONE;
        int faultPlace = NONE;
        private final byte[] tape = new byte[TAPE];
        private int end;
        private int kind;
        private int start;
        private int behind;

        void take(int four) {
            for (int shift = 24; shift >= 0 && length < TAPE; shift -= 8) {
                tape[length] = (byte) (four >> shift);
                length++;
            }
        }

        void read(int textLength, PrizeRows into) {
            faultKind = 0;
            faultPlace = NONE;
            end = Math.min(textLength, TAPE);
            behind = 0;
            into.count = 0;
            step();
            for (int i = 0; i <= PRIZES && kind != END && faultKind == 0; i++) {
                readPrize(into);
            }
        }

        private void readPrize(PrizeRows into) {
            if (!isWord("prize")) {
                blame(MISPLACED);
                return;
            }
            if (into.count >= PRIZES) {
                blame(NINTH);
                return;
            }
            int prize = into.count;
            into.addEmpty();
            step();
            readWishes(into, prize);
            takeWord("best");
            into.best[prize] = takeNumber(1, 24);
            if (faultKind == 0 && isWord("alone")) {
                into.alone[prize] = true;
                step();
            }
            takeStop();
        }

        private void readWishes(PrizeRows into, int prize) {
            int wish = wishInHand();
            for (int i = 0; i <= PrizeRows.WISHES && wish != NONE && faultKind == 0; i++) {
                if (into.wish[wish][prize] != NONE) {
                    blame(TOLD_TWICE);
                } else {
                    step();
                    into.wish[wish][prize] = takeNumber(LEAST_WISH[wish], GREATEST_WISH[wish]);
                    wish = wishInHand();
                }
            }
        }

        private int wishInHand() {
            if (isWord("field")) {
                return PrizeRows.FIELD;
            }
            if (isWord("age")) {
                return PrizeRows.AGE;
            }
            if (isWord("school")) {
                return PrizeRows.SCHOOL;
            }
            return isWord("seen") ? PrizeRows.SEEN : NONE;
        }

        private void takeWord(String word) {
            if (!isWord(word)) {
                blame(MISPLACED);
            }
            step();
        }

        private void takeStop() {
            if (kind != STOP) {
                blame(MISPLACED);
            }
            step();
        }

        private int takeNumber(int least, int greatest) {
            int value = 0;
            if (kind != NUMBER) {
                blame(MISPLACED);
            } else {
                for (int at = start; at < behind; at++) {
                    value = value * 10 + (tape[at] - '0');
                }
                if (!within(value, least, greatest)) {
                    blame(OUT_OF_RANGE);
                }
            }
            step();
            return value;
        }

        /** Only the first fault along the text stays: behind it nothing is read. */
        private void blame(int fault) {
            if (faultKind == 0) {
                faultKind = fault;
                faultPlace = start;
            }
        }

        private boolean isWord(String word) {
            if (kind != WORD || behind - start != word.length()) {
                return false;
            }
            for (int i = 0; i < word.length(); i++) {
                if (tape[start + i] != word.charAt(i)) {
                    return false;
                }
            }
            return true;
        }

        /** Takes the next token in hand, unless there was a fault. */
        private void step() {
            if (faultKind != 0) {
                return;
            }
            start = behind;
            while (start < end && (tape[start] == 10 || tape[start] == 32)) {
                start++;
            }
            if (start >= end) {
                kind = END;
                behind = end;
            } else if (tape[start] == ';') {
                kind = STOP;
                behind = start + 1;
            } else {
                kind = WORD;
                behind = endOfRun('a', 'z');
            }
            if (kind == WORD && behind == start) {
                kind = NUMBER;
                behind = endOfRun('0', '9');
                if (behind == start || behind - start > MOST_DIGITS) {
                    blame(NO_TOKEN);
                }
            }
        }

        private int endOfRun(char least, char greatest) {
            int at = start;
            while (at < end && tape[at] >= least && tape[at] <= greatest) {
                at++;
            }
            return at;
        }
    }

    /** Gives prizes as known on a day, where no heap is great. */
    private static final class Giver {
        int placeCount;
        final int[] places = new int[BOARDS];
        private final Fraction[] fairs = new Fraction[BOARDS];
        private int rankedCount;
        private final int[] ranked = new int[BOARDS];
        private final boolean[] hasOne = new boolean[BOARDS];

        Giver() {
            for (int board = 0; board < BOARDS; board++) {
                fairs[board] = new Fraction();
            }
        }

        /** The boards with marks that count, the best by fair first. */
        void rank(Known known, Scale scale) {
            rankedCount = 0;
            for (int board = 0; board < BOARDS; board++) {
                if (known.marksOf(board) > 0) {
                    scale.rate(known, board, fairs[board]);
                    insert(board);
                }
            }
        }

        /** Gives all prizes up to this one, and keeps the places of this one. */
        void give(PrizeRows prizes, int prize, Boards boards, Known known) {
            for (int board = 0; board < BOARDS; board++) {
                hasOne[board] = false;
            }
            for (int each = 0; each <= prize && each < PRIZES; each++) {
                giveOne(prizes, each, boards, known);
            }
        }

        private void giveOne(PrizeRows prizes, int prize, Boards boards, Known known) {
            placeCount = 0;
            for (int i = 0; i < rankedCount && placeCount < prizes.best[prize]; i++) {
                int board = ranked[i];
                boolean barred = prizes.alone[prize] && hasOne[board];
                if (!barred && prizes.isWished(prize, boards, board, known.marksOf(board))) {
                    hasOne[board] = true;
                    places[placeCount] = board;
                    placeCount++;
                }
            }
        }

        /** Boards come by number, so that one goes behind all that are like it. */
        private void insert(int board) {
            int at = rankedCount;
            while (at > 0 && fairs[board].isAbove(fairs[ranked[at - 1]])) {
                ranked[at] = ranked[at - 1];
                at--;
            }
            ranked[at] = board;
            rankedCount++;
        }
    }

    /** The halls, and how the boards are laid into them. */
    private static final class Halls {
        private static final int MOST_TRIES = 20000;
        // Each step is a try or goes back behind a try that bore the board.
        private static final int MOST_STEPS = 2 * MOST_TRIES + BOARDS;

        int count;
        int tryCount;
        final int[] hallOf = new int[BOARDS];
        private final int[] places = new int[HALLS];
        private final int[] power = new int[HALLS];
        private final int[] water = new int[HALLS];
        private final int[] placesLeft = new int[HALLS];
        private final int[] powerLeft = new int[HALLS];
        private final int[] waterLeft = new int[HALLS];
        // Boards never change: what was found holds till there are more of them, or other halls.
        private int boardsLaid = NONE;
        private int outcome;

        int add(int itsPlaces, int itsPower, int itsWater) {
            int hall = count;
            places[hall] = itsPlaces;
            power[hall] = itsPower;
            water[hall] = itsWater;
            count++;
            boardsLaid = NONE;
            return hall;
        }

        void removeAll() {
            count = 0;
            boardsLaid = NONE;
        }

        int lay(Boards boards) {
            if (boardsLaid != boards.count) {
                boardsLaid = boards.count;
                emptyAll();
                outcome = search(boards);
            }
            return outcome;
        }

        private void emptyAll() {
            tryCount = 0;
            hallOf[0] = 0;
            for (int hall = 0; hall < count; hall++) {
                placesLeft[hall] = places[hall];
                powerLeft[hall] = power[hall];
                waterLeft[hall] = water[hall];
            }
        }

        /** While a board is tried, hallOf holds the hall that is tried next for it. */
        private int search(Boards boards) {
            int board = 0;
            for (int i = 0; i < MOST_STEPS && board >= 0 && board < boards.count; i++) {
                int hall = hallOf[board];
                if (hall >= count) {
                    board--;
                    if (board >= 0) {
                        move(boards, board, 1);
                        hallOf[board]++;
                    }
                } else if (tryCount >= MOST_TRIES) {
                    return SPENT;
                } else {
                    tryCount++;
                    board = place(boards, board, hall);
                }
            }
            return board < 0 ? NOT_LAID : FINE;
        }

        /** The board to go on with: the next one if the hall bears this one. */
        private int place(Boards boards, int board, int hall) {
            boolean bears = placesLeft[hall] >= 1 && powerLeft[hall] >= boards.power[board]
                    && waterLeft[hall] >= boards.water[board];
            if (!bears) {
                hallOf[board]++;
                return board;
            }
            move(boards, board, -1);
            if (board + 1 < BOARDS) {
                hallOf[board + 1] = 0;
            }
            return board + 1;
        }

        /** Into its hall (-1) or out of it (1). */
        private void move(Boards boards, int board, int sign) {
            int hall = hallOf[board];
            placesLeft[hall] += sign;
            powerLeft[hall] += sign * boards.power[board];
            waterLeft[hall] += sign * boards.water[board];
        }
    }
}
