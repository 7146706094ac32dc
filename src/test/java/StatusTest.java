import java.util.ArrayList;
import java.util.List;
import java.util.function.ToIntFunction;

/**
 * Part 5: "A call with another STATUS than 0 gives NONE, or false, and changes nothing but STATUS. status(), fault(),
 * feed(), upper(), lower() have none." Each refused call is made on one of two fairs that are alike: both must tell
 * the same of everything then.
 */
public final class StatusTest {
    private static final int NONE = FairHall.NONE;
    private static final Check C = new Check("StatusTest");

    /** How the two fairs were made ready. */
    private enum Fair { SMALL, FULL, PLANLESS, NOT_LAID, SPENT }

    /** A call with the status that it is refused with; false counts as NONE. */
    private record Refused(String name, int status, ToIntFunction<FairHall> call) { }

    public static void main(String[] args) {
        for (Fair fair : Fair.values()) {
            List<Refused> calls = callsRefusedBy(fair);
            for (Refused each : calls) {
                nothingChanges(fair, List.of(each));
            }
            // A full fair would be used for more than 512 calls then.
            if (fair != Fair.FULL) {
                nothingChanges(fair, calls);
            }
        }
        callsWithoutAStatus();
        faultyTextChangesTapeAndFaultAlone();
        C.finish();
    }

    private static void nothingChanges(Fair fair, List<Refused> calls) {
        FairHall plain = prepared(fair);
        FairHall tried = prepared(fair);
        for (Refused each : calls) {
            C.dueNone(fair + ": " + each.name, tried, each.call.applyAsInt(tried), each.status);
        }
        List<Long> want = everything(plain);
        List<Long> got = everything(tried);
        C.due("as many answers", got.size(), want.size());
        String behind = calls.size() == 1 ? calls.get(0).name : "all of them";
        for (int i = 0; i < want.size(); i++) {
            C.due(fair + ": answer " + i + " behind " + behind, got.get(i), want.get(i));
        }
    }

    private static FairHall prepared(Fair fair) {
        boolean full = fair == Fair.FULL;
        FairHall x = new FairHall();
        for (int i = 0; i < (full ? 24 : 5); i++) {
            x.board(i % 3, i % 2, i % 4, i % 7, i % 5 == 0);
        }
        for (int i = 0; i < (full ? 12 : 8); i++) {
            x.judge(1 + i % 7, i % 4 - 1, 1 + i % 3);
        }
        for (int i = 0; i < (full ? 194 : 3); i++) {
            x.mark(i % 2, i % 3, 10 + i % 50, 2 * i);
        }
        for (int i = 0; i < 6; i++) {
            x.mark(2 + i, 4, 50 + i, 500);
        }
        x.lose(1, 5);
        x.looks(3);
        if (fair != Fair.PLANLESS) {
            x.plan();
        }
        x.hardness(0, 4);
        Check.prizes(x, "prize best 2; prize field 0 best 1 alone;");
        addHalls(x, fair);
        x.feed(0x7072697a, 0x65206265, 0x73742031, 0x203b2020, 0x20202020);
        return x;
    }

    private static void addHalls(FairHall x, Fair fair) {
        if (fair == Fair.NOT_LAID) {
            x.hall(1, 40, 4);
        } else if (fair == Fair.SPENT) {
            for (int i = 0; i < 15; i++) {
                x.board(0, 0, 0, 0, false);
            }
            x.board(0, 0, 0, 99, false);
            x.hall(24, 98, 24);
            x.hall(24, 98, 24);
        } else {
            for (int i = 0; i < (fair == Fair.FULL ? 4 : 2); i++) {
                x.hall(7, 40, 4);
            }
        }
    }

    private static List<Refused> callsRefusedBy(Fair fair) {
        switch (fair) {
            case SMALL:
                return callsRefusedAnywhere();
            case FULL:
                List<Refused> calls = callsRefusedAnywhere();
                calls.addAll(callsTooMany());
                return calls;
            case PLANLESS:
                return List.of(new Refused("sees without a plan", 4, x -> x.sees(0, 0)),
                        new Refused("holds without a plan", 4, x -> x.holds(0)),
                        new Refused("sees of none without a plan", 4, x -> x.sees(-1, -1)));
            default:
                int status = fair == Fair.SPENT ? 10 : 8;
                return List.of(new Refused("laid", status, x -> x.laid(0)),
                        new Refused("tries", status, x -> x.tries()),
                        new Refused("laid of none", 1, x -> x.laid(-1)));
        }
    }

    private static List<Refused> callsTooMany() {
        return List.of(new Refused("a board too many", 3, x -> x.board(1, 1, 1, 1, true)),
                new Refused("a judge too many", 3, x -> x.judge(1, 1, 1)),
                new Refused("a mark too many", 3, x -> x.mark(0, 0, 100, 0)),
                new Refused("a hall too many", 3, x -> x.hall(24, 999, 24)));
    }

    private static int orNone(boolean answer) {
        return answer ? 1 : NONE;
    }

    private static List<Refused> callsRefusedAnywhere() {
        List<Refused> all = new ArrayList<>();
        all.add(new Refused("board of field 8", 2, x -> x.board(8, 0, 0, 0, true)));
        all.add(new Refused("board of age 4", 2, x -> x.board(0, 4, 0, 0, true)));
        all.add(new Refused("board of school 16", 2, x -> x.board(0, 0, 16, 0, true)));
        all.add(new Refused("board of power 100", 2, x -> x.board(0, 0, 0, 100, true)));
        all.add(new Refused("judge of fields 256", 2, x -> x.judge(256, 0, 0)));
        all.add(new Refused("judge of school 16", 2, x -> x.judge(1, 16, 0)));
        all.add(new Refused("judge of most 25", 2, x -> x.judge(1, 0, 25)));
        all.add(new Refused("told of none", 1, x -> x.told(24, 0)));
        all.add(new Refused("told 6", 2, x -> x.told(0, 6)));
        all.add(new Refused("may of no judge", 1, x -> x.may(12, 0)));
        all.add(new Refused("may of no board", 1, x -> x.may(0, 24)));
        all.add(new Refused("looks 0", 2, x -> orNone(x.looks(0))));
        all.add(new Refused("looks 5", 2, x -> orNone(x.looks(5))));
        all.add(new Refused("sees of no judge", 1, x -> x.sees(12, 0)));
        all.add(new Refused("sees of no board", 1, x -> x.sees(0, 24)));
        all.add(new Refused("holds of none", 1, x -> x.holds(24)));
        all.add(new Refused("mark of no judge", 1, x -> x.mark(-1, 0, 1, 0)));
        all.add(new Refused("mark of no board", 1, x -> x.mark(0, 24, 1, 0)));
        all.add(new Refused("mark 101", 2, x -> x.mark(0, 0, 101, 0)));
        all.add(new Refused("mark on no day", 2, x -> x.mark(0, 0, 1, 1000)));
        all.add(new Refused("lose of none", 1, x -> orNone(x.lose(200, 0))));
        all.add(new Refused("lose on no day", 2, x -> orNone(x.lose(0, 1000))));
        all.add(new Refused("lose twice", 5, x -> orNone(x.lose(1, 0))));
        all.add(new Refused("seen of none", 1, x -> x.seen(24, 0)));
        all.add(new Refused("seen on no day", 2, x -> x.seen(0, 1000)));
        all.add(new Refused("heap of none", 1, x -> x.heap(12, 0)));
        all.add(new Refused("heap on no day", 2, x -> x.heap(0, 1000)));
        all.add(new Refused("heap without marks", 6, x -> x.heap(2, 0)));
        all.add(new Refused("hardness of none", 1, x -> orNone(x.hardness(-1, 0))));
        all.add(new Refused("hardness on no day", 2, x -> orNone(x.hardness(0, -1))));
        all.add(new Refused("hardness without marks", 6, x -> orNone(x.hardness(2, 0))));
        all.add(new Refused("hardness in a great heap", 9, x -> orNone(x.hardness(2, 500))));
        all.add(new Refused("fair of none", 1, x -> orNone(x.fair(24, 0))));
        all.add(new Refused("fair on no day", 2, x -> orNone(x.fair(0, 1000))));
        all.add(new Refused("fair without marks", 6, x -> orNone(x.fair(4, 0))));
        all.add(new Refused("fair in a great heap", 9, x -> orNone(x.fair(4, 500))));
        all.add(new Refused("prizes of more than the tape", 2, x -> x.prizes(21)));
        all.add(new Refused("prizes below 0", 2, x -> x.prizes(-1)));
        all.add(new Refused("given of none", 1, x -> x.given(2, 0, 4)));
        all.add(new Refused("given no place", 1, x -> x.given(0, 2, 4)));
        all.add(new Refused("given a place below 0", 1, x -> x.given(0, -1, 4)));
        all.add(new Refused("given on no day", 2, x -> x.given(0, 0, 1000)));
        all.add(new Refused("given with a great heap", 9, x -> x.given(0, 0, 500)));
        all.add(new Refused("hall of 25 places", 2, x -> x.hall(25, 0, 0)));
        all.add(new Refused("hall of power 1000", 2, x -> x.hall(0, 1000, 0)));
        all.add(new Refused("hall of water 25", 2, x -> x.hall(0, 0, 25)));
        all.add(new Refused("laid of none", 1, x -> x.laid(24)));
        return all;
    }

    private static List<Long> everything(FairHall x) {
        List<Long> all = new ArrayList<>();
        all.add(x.upper());
        all.add(x.lower());
        all.add((long) x.fault(0));
        all.add((long) x.fault(1));
        for (int board = 0; board < 24; board++) {
            all.add((long) x.holds(board));
            all.add((long) x.sees(board % 12, board));
            all.add((long) x.told(board, board % 6));
            all.add((long) x.laid(board));
            all.add((long) x.seen(board, 4));
            all.add(x.fair(board, 4) ? x.upper() * 1000 + x.lower() : NONE);
        }
        for (int day = 0; day < 6; day++) {
            all.add((long) x.seen(1, day));
            all.add((long) x.heap(1, day));
        }
        all.add((long) x.tries());
        for (int k = 0; k < 3; k++) {
            all.add((long) x.given(0, k, 4));
            all.add((long) x.given(1, k, 4));
        }
        all.add((long) x.plan());
        all.add((long) x.feed(0, 0, 0, 0, 0));
        all.add((long) x.prizes(20));
        all.add((long) x.mark(0, 0, 1, 1));
        all.add((long) x.board(0, 0, 0, 0, false));
        all.add((long) x.judge(0, 0, 0));
        all.add((long) x.hall(0, 0, 0));
        return all;
    }

    /** Behind a call with each status that is easily had, and behind one with 0. */
    private static void callsWithoutAStatus() {
        int[] statuses = {0, 1, 2, 4, 8};
        for (int status : statuses) {
            FairHall x = new FairHall();
            x.board(0, 0, 0, 0, false);
            withStatus(x, status);
            x.status();
            C.due("status() behind status()", x.status(), status);
            x.fault(0);
            x.fault(1);
            x.fault(2);
            C.due("status() behind fault()", x.status(), status);
            x.upper();
            C.due("status() behind upper()", x.status(), status);
            x.lower();
            C.due("status() behind lower()", x.status(), status);
            for (int i = 0; i < 16; i++) {
                x.feed(i, i, i, i, i);
                C.due("status() behind feed() " + i, x.status(), status);
            }
        }
    }

    private static void withStatus(FairHall x, int status) {
        switch (status) {
            case 1:
                x.told(1, 0);
                break;
            case 2:
                x.told(0, 6);
                break;
            case 4:
                x.holds(0);
                break;
            case 8:
                x.tries();
                break;
            default:
                x.told(0, 0);
                break;
        }
    }

    /** 7 is the one status that changes more: the tape is empty then, too, and fault() tells of this text. */
    private static void faultyTextChangesTapeAndFaultAlone() {
        FairHall x = prepared(Fair.SMALL);
        FairHall y = prepared(Fair.SMALL);
        Check.feed(x, "prize");
        C.dueNone("a faulty text", x, x.prizes(40), 7);
        C.due("its fault", x.fault(0), 2);
        C.due("its place", x.fault(1), 40);
        C.dueNone("the tape is empty", x, x.prizes(1), 2);
        // The other has no fault, and an empty tape as well; then all else must be alike.
        Check.prizes(y, "");
        Check.prizes(y, "prize best 2; prize field 0 best 1 alone;");
        List<Long> got = everything(x);
        List<Long> want = everything(y);
        for (int i = 0; i < want.size(); i++) {
            boolean fault = i == 2 || i == 3;
            C.due("answer " + i + " behind a faulty text", got.get(i).equals(want.get(i)), !fault);
        }
    }
}
