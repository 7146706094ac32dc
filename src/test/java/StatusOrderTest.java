/** Part 5: "STATUS of a call is the first of these that holds", where several of a call's statuses hold at once. */
public final class StatusOrderTest {
    private static final int NONE = FairHall.NONE;
    private static final int MIN = Integer.MIN_VALUE;
    private static final int MAX = Integer.MAX_VALUE;
    private static final Check C = new Check("StatusOrderTest");

    public static void main(String[] args) {
        board();
        judge();
        told();
        may();
        sees();
        holds();
        mark();
        lose();
        seen();
        heap();
        hardness();
        fair();
        prizes();
        given();
        hall();
        laid();
        tries();
        takenEverywhere();
        C.finish();
    }

    /** Full of boards, judges, marks and halls; judges 0 to 5 are a great heap on day 0, judge 11 has no marks. */
    private static FairHall full() {
        FairHall x = new FairHall();
        for (int i = 0; i < 24; i++) {
            x.board(0, 0, 0, 1, false);
        }
        for (int i = 0; i < 12; i++) {
            x.judge(1, NONE, 24);
        }
        for (int i = 0; i < 200; i++) {
            x.mark(i % 6, i % 5, 50, 0);
        }
        for (int i = 0; i < 4; i++) {
            x.hall(0, 0, 0);
        }
        C.due("status() of a full fair", x.status(), 0);
        return x;
    }

    /** 2 ahead of 3. */
    private static void board() {
        FairHall x = full();
        C.dueNone("3 alone", x, x.board(0, 0, 0, 0, false), 3);
        for (int odd : new int[] {MIN, -1, 100, MAX}) {
            C.dueNone("2 and 3 by the field", x, x.board(odd, 0, 0, 0, false), 2);
            C.dueNone("2 and 3 by the age", x, x.board(0, odd, 0, 0, false), 2);
            C.dueNone("2 and 3 by the school", x, x.board(0, 0, odd, 0, false), 2);
            C.dueNone("2 and 3 by the power", x, x.board(0, 0, 0, odd, true), 2);
        }
    }

    /** 2 ahead of 3. */
    private static void judge() {
        FairHall x = full();
        C.dueNone("3 alone", x, x.judge(0, 0, 0), 3);
        for (int odd : new int[] {MIN, -2, 256, MAX}) {
            C.dueNone("2 and 3 by the fields", x, x.judge(odd, 0, 0), 2);
            C.dueNone("2 and 3 by the school", x, x.judge(0, odd, 0), 2);
            C.dueNone("2 and 3 by the most", x, x.judge(0, 0, odd), 2);
        }
    }

    /** 1 ahead of 2. */
    private static void told() {
        FairHall x = new FairHall();
        x.board(0, 0, 0, 0, false);
        for (int odd : new int[] {MIN, -1, 6, MAX}) {
            C.dueNone("1 and 2", x, x.told(odd, odd), 1);
            C.dueNone("2 alone", x, x.told(0, odd), 2);
            C.dueNone("1 alone", x, x.told(odd, 0), 1);
        }
    }

    /** 1 for either; no plan is needed. */
    private static void may() {
        FairHall x = new FairHall();
        x.board(0, 0, 0, 0, false);
        C.dueNone("no judge", x, x.may(0, 0), 1);
        x.judge(1, NONE, 0);
        C.due("both", x, x.may(0, 0), 1, 0);
        C.dueNone("no such board", x, x.may(0, 1), 1);
        C.dueNone("no such judge", x, x.may(1, 0), 1);
    }

    /** 4 ahead of 1, against the order of the numbers. */
    private static void sees() {
        FairHall x = full();
        for (int odd : new int[] {MIN, -1, 24, MAX}) {
            C.dueNone("4 and 1 by the judge", x, x.sees(odd, 0), 4);
            C.dueNone("4 and 1 by the board", x, x.sees(0, odd), 4);
            C.dueNone("4 and 1 by both", x, x.sees(odd, odd), 4);
        }
        C.dueNone("4 alone", x, x.sees(0, 0), 4);
        x.plan();
        C.dueNone("1 by the judge", x, x.sees(12, 0), 1);
        C.dueNone("1 by the board", x, x.sees(0, 24), 1);
    }

    /** 4 ahead of 1, too. */
    private static void holds() {
        FairHall x = full();
        for (int odd : new int[] {MIN, -1, 24, MAX}) {
            C.dueNone("4 and 1", x, x.holds(odd), 4);
        }
        C.dueNone("4 alone", x, x.holds(0), 4);
        x.plan();
        C.dueNone("1 alone", x, x.holds(24), 1);
    }

    /** 1 ahead of 2 ahead of 3. */
    private static void mark() {
        FairHall x = full();
        C.dueNone("3 alone", x, x.mark(0, 0, 0, 0), 3);
        for (int odd : new int[] {MIN, -1, 1000, MAX}) {
            C.dueNone("1 and 3 by the judge", x, x.mark(odd, 0, 0, 0), 1);
            C.dueNone("1 and 3 by the board", x, x.mark(0, odd, 0, 0), 1);
            C.dueNone("1, 2 and 3 by the judge and the mark", x, x.mark(odd, 0, odd, 0), 1);
            C.dueNone("1, 2 and 3 by the board and the day", x, x.mark(0, odd, 0, odd), 1);
            C.dueNone("2 and 3 by the mark", x, x.mark(0, 0, odd, 0), 2);
            C.dueNone("2 and 3 by the day", x, x.mark(0, 0, 0, odd), 2);
        }
        FairHall y = new FairHall();
        y.board(0, 0, 0, 0, false);
        C.dueNone("1 and 2, no judge", y, y.mark(0, 0, 101, 1000), 1);
        y.judge(0, NONE, 0);
        C.dueNone("1 and 2, no such board", y, y.mark(0, 1, 101, 1000), 1);
        C.dueNone("2 alone", y, y.mark(0, 0, 101, 1000), 2);
    }

    /** 1 ahead of 2 ahead of 5. */
    private static void lose() {
        FairHall x = full();
        x.lose(7, 7);
        C.due("5 alone", x, x.lose(7, 7), 5);
        for (int odd : new int[] {MIN, -1, 1000, MAX}) {
            C.due("1 and 2", x, x.lose(odd, odd), 1);
            C.due("2 and 5", x, x.lose(7, odd), 2);
            C.due("2 alone", x, x.lose(8, odd), 2);
            C.due("1 alone", x, x.lose(odd, 0), 1);
        }
    }

    /** 1 ahead of 2. */
    private static void seen() {
        FairHall x = full();
        for (int odd : new int[] {MIN, -1, 1000, MAX}) {
            C.dueNone("1 and 2", x, x.seen(odd, odd), 1);
            C.dueNone("2 alone", x, x.seen(0, odd), 2);
            C.dueNone("1 alone", x, x.seen(odd, 0), 1);
        }
        C.due("a great heap is no hindrance", x, x.seen(0, 0), 6, 0);
    }

    /** 1 ahead of 2 ahead of 6; a great heap is no hindrance. */
    private static void heap() {
        FairHall x = full();
        for (int odd : new int[] {MIN, -1, 1000, MAX}) {
            C.dueNone("1 and 2", x, x.heap(odd, odd), 1);
            C.dueNone("2 and 6", x, x.heap(11, odd), 2);
            C.dueNone("2 alone", x, x.heap(0, odd), 2);
        }
        C.dueNone("6 alone", x, x.heap(11, 0), 6);
        C.due("a great heap", x, x.heap(5, 0), 0, 0);
    }

    /** 1 ahead of 2 ahead of 6 ahead of 9. */
    private static void hardness() {
        FairHall x = full();
        for (int odd : new int[] {MIN, -1, 1000, MAX}) {
            C.due("1 and 2", x, x.hardness(odd, odd), 1);
            C.due("2 and 6", x, x.hardness(11, odd), 2);
            C.due("2 and 9", x, x.hardness(0, odd), 2);
            C.due("1 alone", x, x.hardness(odd, 0), 1);
        }
        C.due("6, and another heap is great", x, x.hardness(11, 0), 6);
        C.due("9 alone", x, x.hardness(0, 0), 9);
    }

    /** 1 ahead of 2 ahead of 6 ahead of 9. */
    private static void fair() {
        FairHall x = full();
        for (int odd : new int[] {MIN, -1, 1000, MAX}) {
            C.due("1 and 2", x, x.fair(odd, odd), 1);
            C.due("2 and 6", x, x.fair(23, odd), 2);
            C.due("2 and 9", x, x.fair(0, odd), 2);
            C.due("1 alone", x, x.fair(odd, 0), 1);
        }
        C.due("6, and there is a great heap", x, x.fair(23, 0), 6);
        C.due("9 alone", x, x.fair(0, 0), 9);
    }

    /** 2 ahead of 7. */
    private static void prizes() {
        FairHall x = new FairHall();
        Check.feed(x, "?");
        for (int odd : new int[] {MIN, -1, 21, 301, MAX}) {
            C.dueNone("2, with a faulty text on the tape", x, x.prizes(odd), 2);
        }
        C.due("no text was read", x.fault(0), NONE);
        C.dueNone("7 alone", x, x.prizes(20), 7);
        C.dueNone("2 on an empty tape", x, x.prizes(20), 2);
    }

    /** 1 ahead of 2 ahead of 9. */
    private static void given() {
        FairHall x = full();
        C.dueNone("1, no prizes", x, x.given(0, 0, 0), 1);
        C.dueNone("1 and 2, no prizes", x, x.given(0, 0, -1), 1);
        Check.prizes(x, "prize best 1;");
        for (int odd : new int[] {MIN, -1, 1000, MAX}) {
            C.dueNone("1, 2 and 9", x, x.given(odd, 0, odd), 1);
            C.dueNone("1 and 9", x, x.given(odd, 0, 0), 1);
            C.dueNone("2 and 9", x, x.given(0, 0, odd), 2);
        }
        for (int k : new int[] {MIN, -1}) {
            C.dueNone("1 by k, 2 and 9", x, x.given(0, k, 1000), 1);
            C.dueNone("1 by k and 9", x, x.given(0, k, 0), 1);
        }
        C.dueNone("9 alone", x, x.given(0, 0, 0), 9);
    }

    /** 2 ahead of 3. */
    private static void hall() {
        FairHall x = full();
        C.dueNone("3 alone", x, x.hall(0, 0, 0), 3);
        for (int odd : new int[] {MIN, -1, 1000, MAX}) {
            C.dueNone("2 and 3 by the places", x, x.hall(odd, 0, 0), 2);
            C.dueNone("2 and 3 by the power", x, x.hall(0, odd, 0), 2);
            C.dueNone("2 and 3 by the water", x, x.hall(0, 0, odd), 2);
        }
    }

    private static FairHall spent() {
        FairHall x = new FairHall();
        for (int i = 0; i < 23; i++) {
            x.board(0, 0, 0, 0, false);
        }
        x.board(0, 0, 0, 9, false);
        x.hall(24, 8, 0);
        x.hall(24, 8, 0);
        return x;
    }

    /** 1 ahead of 8 and of 10. */
    private static void laid() {
        FairHall x = full();
        FairHall y = spent();
        for (int odd : new int[] {MIN, -1, 24, MAX}) {
            C.dueNone("1 and 8", x, x.laid(odd), 1);
            C.dueNone("1 and 10", y, y.laid(odd), 1);
        }
        C.dueNone("8 alone", x, x.laid(0), 8);
        C.dueNone("10 alone", y, y.laid(0), 10);
    }

    private static void tries() {
        FairHall x = full();
        C.dueNone("8", x, x.tries(), 8);
        FairHall y = spent();
        C.dueNone("10", y, y.tries(), 10);
        y.clear();
        C.dueNone("8 in place of 10", y, y.tries(), 8);
    }

    /** "0 else": every call that has a status, behind one that was refused. */
    private static void takenEverywhere() {
        FairHall x = new FairHall();
        behindARefusal(x, x.board(0, 0, 0, 0, false));
        behindARefusal(x, x.judge(1, NONE, 1));
        behindARefusal(x, x.told(0, 5));
        behindARefusal(x, x.may(0, 0));
        behindARefusal(x, x.looks(1) ? 1 : NONE);
        behindARefusal(x, x.plan());
        behindARefusal(x, x.sees(0, 0));
        behindARefusal(x, x.holds(0));
        behindARefusal(x, x.mark(0, 0, 50, 0));
        behindARefusal(x, x.seen(0, 0));
        behindARefusal(x, x.heap(0, 0));
        behindARefusal(x, x.hardness(0, 0) ? 1 : NONE);
        behindARefusal(x, x.fair(0, 0) ? 1 : NONE);
        Check.feed(x, "prize best 1;");
        behindARefusal(x, x.prizes(13));
        behindARefusal(x, x.given(0, 0, 0));
        behindARefusal(x, x.lose(0, 1) ? 1 : NONE);
        behindARefusal(x, x.hall(1, 0, 0));
        behindARefusal(x, x.laid(0));
        behindARefusal(x, x.tries());
        behindARefusal(x, x.clear() ? 1 : NONE);
    }

    /** Looks at the call that was made, and then makes one that is refused, for the next. */
    private static void behindARefusal(FairHall x, int answer) {
        C.due("a call that was taken", C.statusOf(x, answer), 0);
        C.dueNone("a refusal", x, x.told(-1, 0), 1);
    }
}
