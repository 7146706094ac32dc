import java.util.ArrayList;
import java.util.List;

/** Part 5: a call with another status than 0 gives NONE, or false, and changes nothing but the status. */
public final class StatusTest {
    private static final int NONE = FairHall.NONE;
    private static final Check C = new Check("StatusTest");

    public static void main(String[] args) {
        nothingChanges(false);
        nothingChanges(true);
        faultyTextChangesTapeAndFaultAlone();
        C.finish();
    }

    /** Two fairs with the same calls; one also has calls that are refused: then both must tell the same. */
    private static void nothingChanges(boolean full) {
        FairHall plain = prepared(full);
        FairHall tried = prepared(full);
        refusedCalls(tried, full);
        List<Long> want = everything(plain);
        List<Long> got = everything(tried);
        C.due("as many answers", got.size(), want.size());
        for (int i = 0; i < want.size(); i++) {
            C.due("answer " + i + (full ? " of a full fair" : ""), got.get(i), want.get(i));
        }
    }

    private static FairHall prepared(boolean full) {
        FairHall x = new FairHall();
        for (int i = 0; i < (full ? 24 : 5); i++) {
            x.board(i % 3, i % 2, i % 4, i % 7, i % 5 == 0);
        }
        for (int i = 0; i < (full ? 12 : 8); i++) {
            x.judge(1 + i % 7, i % 4 - 1, 1 + i % 3);
        }
        for (int i = 0; i < (full ? 194 : 3); i++) {
            x.mark(i % 2, i % 3, 10 + i % 50, 2 * i);
        }
        for (int i = 0; i < 6; i++) {
            x.mark(2 + i, 4, 50 + i, 500);
        }
        x.lose(1, 5);
        x.looks(3);
        x.plan();
        x.hardness(0, 4);
        Check.prizes(x, "prize best 2; prize field 0 best 1 alone;");
        for (int i = 0; i < (full ? 4 : 2); i++) {
            x.hall(7, 40, 4);
        }
        x.feed(0x7072697a, 0x65206265, 0x73742031, 0x203b2020, 0x20202020);
        return x;
    }

    private static void refusedCalls(FairHall x, boolean full) {
        C.dueNone("board", x, x.board(0, 0, 0, 100, true), 2);
        C.dueNone("judge", x, x.judge(1, 0, 25), 2);
        C.dueNone("mark", x, x.mark(0, 0, 101, 0), 2);
        C.dueNone("mark of none", x, x.mark(-1, 0, 1, 0), 1);
        C.dueNone("hall", x, x.hall(0, 0, 99), 2);
        if (full) {
            C.dueNone("a board too many", x, x.board(1, 1, 1, 1, true), 3);
            C.dueNone("a judge too many", x, x.judge(1, 1, 1), 3);
            C.dueNone("a mark too many", x, x.mark(0, 0, 100, 0), 3);
            C.dueNone("a hall too many", x, x.hall(24, 999, 24), 3);
        }
        C.due("looks", x, x.looks(0), 2);
        C.due("lose of none", x, x.lose(200, 0), 1);
        C.due("lose on no day", x, x.lose(0, 1000), 2);
        C.due("lose twice", x, x.lose(1, 0), 5);
        C.due("hardness of none", x, x.hardness(-1, 0), 1);
        C.due("hardness on no day", x, x.hardness(0, -1), 2);
        C.due("hardness without marks", x, x.hardness(2, 0), 6);
        C.due("hardness in a great heap", x, x.hardness(2, 500), 9);
        C.due("fair of none", x, x.fair(24, 0), 1);
        C.due("fair on no day", x, x.fair(0, 1000), 2);
        C.due("fair without marks", x, x.fair(4, 0), 6);
        C.due("fair in a great heap", x, x.fair(4, 500), 9);
        C.dueNone("prizes", x, x.prizes(21), 2);
        C.dueNone("prizes below 0", x, x.prizes(-1), 2);
        C.dueNone("given of none", x, x.given(2, 0, 4), 1);
        C.dueNone("given no place", x, x.given(0, 24, 4), 1);
        C.dueNone("given on no day", x, x.given(0, 0, 1000), 2);
        C.dueNone("given with a great heap", x, x.given(0, 0, 500), 9);
        C.dueNone("told", x, x.told(0, 6), 2);
        C.dueNone("may", x, x.may(12, 0), 1);
        C.dueNone("sees", x, x.sees(12, 0), 1);
        C.dueNone("holds", x, x.holds(24), 1);
        C.dueNone("seen", x, x.seen(0, 1000), 2);
        C.dueNone("heap", x, x.heap(2, 0), 6);
        C.dueNone("laid", x, x.laid(24), 1);
    }

    private static List<Long> everything(FairHall x) {
        List<Long> all = new ArrayList<>();
        all.add(x.upper());
        all.add(x.lower());
        all.add((long) x.fault(0));
        all.add((long) x.fault(1));
        for (int board = 0; board < 24; board++) {
            all.add((long) x.holds(board));
            all.add((long) x.sees(board % 12, board));
            all.add((long) x.laid(board));
            all.add((long) x.seen(board, 4));
            all.add(x.fair(board, 4) ? x.upper() * 1000 + x.lower() : NONE);
        }
        all.add((long) x.tries());
        for (int k = 0; k < 3; k++) {
            all.add((long) x.given(0, k, 4));
            all.add((long) x.given(1, k, 4));
        }
        all.add((long) x.plan());
        all.add((long) x.feed(0, 0, 0, 0, 0));
        all.add((long) x.prizes(20));
        all.add((long) x.mark(0, 0, 1, 1));
        all.add((long) x.board(0, 0, 0, 0, false));
        all.add((long) x.judge(0, 0, 0));
        all.add((long) x.hall(0, 0, 0));
        return all;
    }

    private static void faultyTextChangesTapeAndFaultAlone() {
        FairHall x = prepared(false);
        int first = x.given(0, 0, 4);
        int other = x.given(1, 0, 4);
        Check.feed(x, "prize");
        C.dueNone("a faulty text", x, x.prizes(40), 7);
        C.due("its fault", x.fault(0), 2);
        C.due("its place", x.fault(1), 40);
        C.due("prize 0 stays", x, x.given(0, 0, 4), first, 0);
        C.due("prize 1 stays", x, x.given(1, 0, 4), other, 0);
        C.due("the tape is empty", x.feed(0, 0, 0, 0, 0), 20);
    }
}
