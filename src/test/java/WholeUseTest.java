import java.util.ArrayList;
import java.util.List;
import java.util.function.ToLongFunction;

/**
 * "An object is used for at most 512 calls after it has been made": what holds of a call holds of each of these,
 * the last one too, whatever was called ahead of it. Each test here uses an object for 512 calls and no more.
 */
public final class WholeUseTest {
    private static final Check C = new Check("WholeUseTest");
    private static final int NONE = FairHall.NONE;
    private static final int CALLS = 512;
    private static final String TEXT = "prize field 1 best 1;prize best 2 alone;";

    /** A call, and what it answers on the prepared fair. */
    private record Question(String call, ToLongFunction<FairHall> ask, long due) {
    }

    public static void main(String[] args) {
        askedAgainAndAgain();
        askedLast();
        refusedAgainAndAgain();
        changedLast();
        numberedToTheEnd();
        feedToTheEnd();
        textsAgainAndAgain();
        hallsAgainAndAgain();
        plansAgainAndAgain();
        marksLostDayByDay();
        objectsSideBySide();
        C.finish();
    }

    /** Two boards, two judges, a plan that lacks looks, three marks, two prizes and two halls. */
    private static FairHall prepared() {
        FairHall x = new FairHall();
        x.board(0, 1, 3, 20, false);
        x.board(1, 2, 5, 8, true);
        x.judge(3, 5, 4);
        x.judge(3, NONE, 1);
        x.plan();
        x.mark(0, 0, 80, 1);
        x.mark(1, 0, 71, 1);
        x.mark(1, 1, 60, 2);
        Check.prizes(x, TEXT);
        x.hall(1, 50, 0);
        x.hall(2, 50, 1);
        x.hardness(1, 2);
        return x;
    }

    /** How many calls prepared() makes; two of them feed the text. */
    private static final int PREPARED = 14;

    private static List<Question> questions() {
        List<Question> all = new ArrayList<>();
        all.add(new Question("status()", FairHall::status, 0));
        all.add(new Question("told(1, 3)", x -> x.told(1, 3), 8));
        all.add(new Question("told(1, 5)", x -> x.told(1, 5), 1));
        all.add(new Question("may(0, 1)", x -> x.may(0, 1), 0));
        all.add(new Question("may(1, 1)", x -> x.may(1, 1), 1));
        all.add(new Question("plan()", FairHall::plan, 2));
        all.add(new Question("sees(1, 0)", x -> x.sees(1, 0), 1));
        all.add(new Question("sees(1, 1)", x -> x.sees(1, 1), 0));
        all.add(new Question("holds(0)", x -> x.holds(0), 1));
        all.add(new Question("seen(0, 2)", x -> x.seen(0, 2), 2));
        all.add(new Question("heap(1, 2)", x -> x.heap(1, 2), 0));
        all.add(new Question("heap(1, 0)", x -> x.heap(1, 0), NONE));
        all.add(new Question("hardness(1, 2)", x -> x.hardness(1, 2) ? 1 : 0, 1));
        all.add(new Question("upper()", FairHall::upper, -9));
        all.add(new Question("lower()", FairHall::lower, 2));
        all.add(new Question("fault(0)", x -> x.fault(0), 0));
        all.add(new Question("fault(1)", x -> x.fault(1), NONE));
        all.add(new Question("given(0, 0, 2)", x -> x.given(0, 0, 2), 1));
        all.add(new Question("given(1, 0, 2)", x -> x.given(1, 0, 2), 0));
        all.add(new Question("given(1, 1, 2)", x -> x.given(1, 1, 2), NONE));
        all.add(new Question("laid(0)", x -> x.laid(0), 0));
        all.add(new Question("laid(1)", x -> x.laid(1), 1));
        all.add(new Question("tries()", FairHall::tries, 3));
        return all;
    }

    /** Calls that the prepared fair refuses, with the statuses due. */
    private static List<Question> refusals() {
        List<Question> all = new ArrayList<>();
        all.add(new Question("board(8, 0, 0, 0, true)", x -> x.board(8, 0, 0, 0, true), 2));
        all.add(new Question("judge(256, 0, 0)", x -> x.judge(256, 0, 0), 2));
        all.add(new Question("told(2, 0)", x -> x.told(2, 0), 1));
        all.add(new Question("may(2, 0)", x -> x.may(2, 0), 1));
        all.add(new Question("looks(5)", x -> orNone(x.looks(5)), 2));
        all.add(new Question("sees(0, 2)", x -> x.sees(0, 2), 1));
        all.add(new Question("holds(-1)", x -> x.holds(-1), 1));
        all.add(new Question("mark(0, 0, 101, 0)", x -> x.mark(0, 0, 101, 0), 2));
        all.add(new Question("lose(3, 0)", x -> orNone(x.lose(3, 0)), 1));
        all.add(new Question("seen(0, 1000)", x -> x.seen(0, 1000), 2));
        all.add(new Question("heap(0, 0)", x -> x.heap(0, 0), 6));
        all.add(new Question("hardness(0, 0)", x -> orNone(x.hardness(0, 0)), 6));
        all.add(new Question("fair(1, 1)", x -> orNone(x.fair(1, 1)), 6));
        all.add(new Question("prizes(1)", x -> x.prizes(1), 2));
        all.add(new Question("given(0, 1, 2)", x -> x.given(0, 1, 2), 1));
        all.add(new Question("hall(25, 0, 0)", x -> x.hall(25, 0, 0), 2));
        all.add(new Question("laid(2)", x -> x.laid(2), 1));
        return all;
    }

    private static long orNone(boolean answer) {
        return answer ? 1 : NONE;
    }

    private static void askedAgainAndAgain() {
        for (Question question : questions()) {
            FairHall x = prepared();
            for (int call = PREPARED + 1; call <= CALLS; call++) {
                C.due(question.call + " as call " + call, question.ask.applyAsLong(x), question.due);
            }
        }
    }

    /** Behind all other questions and refusals, in turn. */
    private static void askedLast() {
        for (Question question : questions()) {
            FairHall x = prepared();
            int call = PREPARED + 1;
            while (call < CALLS - 2) {
                call = askOne(x, call);
            }
            // fair() and hardness() told other fractions, and refusals other statuses.
            x.hardness(1, 2);
            x.looks(2);
            C.due(question.call + " as the last call", question.ask.applyAsLong(x), question.due);
        }
    }

    private static int askOne(FairHall x, int call) {
        List<Question> questions = questions();
        List<Question> refusals = refusals();
        if (call % 3 == 0) {
            Question refused = refusals.get(call / 3 % refusals.size());
            C.due(refused.call + " as call " + call, refused.ask.applyAsLong(x), NONE);
        } else if (call % 3 == 1) {
            Question question = questions.get(call % questions.size());
            question.ask.applyAsLong(x);
        } else {
            C.due("fair(0, 2) as call " + call, x.fair(0, 2), true);
        }
        return call + 1;
    }

    private static void refusedAgainAndAgain() {
        for (Question refused : refusals()) {
            FairHall x = prepared();
            for (int call = PREPARED + 1; call < CALLS; call += 2) {
                C.dueNone(refused.call + " as call " + call, x, refused.ask.applyAsLong(x), (int) refused.due);
            }
        }
    }

    /** Each call that changes something changes it as the 511th too. */
    private static void changedLast() {
        C.due("board() as call 511", filled().board(7, 3, 15, 99, true), 2);
        C.due("judge() as call 511", filled().judge(255, 15, 24), 2);
        C.due("mark() as call 511", filled().mark(0, 1, 100, 999), 3);
        C.due("hall() as call 511", filled().hall(24, 999, 24), 2);
        FairHall x = filled();
        C.due("looks(1) as call 511", x.looks(1), true);
        C.due("plan() as call 512", x.plan(), 0);
        x = filled();
        C.due("lose(0, 2) as call 511", x.lose(0, 2), true);
        C.due("seen(0, 2) as call 512", x.seen(0, 2), 1);
        x = filled();
        C.due("clear() as call 511", x.clear(), true);
        C.dueNone("tries() as call 512", x, x.tries(), 8);
        x = filled();
        C.due("feed() as call 511", x.feed(0x7072697a, 0x65206265, 0x73742039, 0x3b202020, 0x20202020), 20);
        C.due("prizes(13) as call 512", x.prizes(13), 1);
        x = filled();
        C.due("prizes(0) as call 511", x.prizes(0), 0);
        C.dueNone("given(0, 0, 2) as call 512", x, x.given(0, 0, 2), 1);
        x = filled();
        C.due("fair(1, 2) as call 511", x.fair(1, 2), true);
        C.due("upper() as call 512", x.upper(), 129);
    }

    /** The prepared fair behind 510 calls. */
    private static FairHall filled() {
        FairHall x = prepared();
        int call = PREPARED + 1;
        while (call <= CALLS - 2) {
            call = askOne(x, call);
        }
        return x;
    }

    private static void numberedToTheEnd() {
        FairHall boards = new FairHall();
        FairHall judges = new FairHall();
        FairHall halls = new FairHall();
        FairHall marks = new FairHall();
        marks.board(0, 0, 0, 0, false);
        marks.judge(0, 0, 0);
        for (int i = 0; i < CALLS / 2; i++) {
            numbered("board", boards, boards.board(i % 8, i % 4, i % 16, i % 100, i % 2 == 0), i, 24);
            numbered("judge", judges, judges.judge(i, i % 17 - 1, i % 25), i, 12);
            numbered("hall", halls, halls.hall(i % 25, i, i % 25), i, 4);
            if (i < CALLS / 2 - 1) {
                numbered("mark", marks, marks.mark(0, 0, i % 101, i), i, 200);
            }
        }
    }

    private static void numbered(String call, FairHall x, int answer, int i, int most) {
        C.due(call + " number " + i, x, answer, i < most ? i : NONE, i < most ? 0 : 3);
    }

    private static void feedToTheEnd() {
        FairHall x = new FairHall();
        for (int call = 1; call < CALLS; call++) {
            int want = call <= 15 ? call * 20 : NONE;
            C.due("feed() as call " + call, x.feed(0x20202020, 0x20202020, 0x0a0a0a0a, 0x20202020, 0x20202020), want);
        }
        C.due("prizes(300) as the last call", x.prizes(300), 0);
    }

    /** Prizes take the place of all others, a fault leaves them, and the tape is empty behind both. */
    private static void textsAgainAndAgain() {
        FairHall x = new FairHall();
        x.board(0, 0, 0, 0, false);
        x.judge(1, NONE, 1);
        x.mark(0, 0, 50, 0);
        int calls = 3;
        for (int round = 0; calls + 12 <= CALLS; round++) {
            int many = 1 + round % 3;
            C.due("prizes() in round " + round, Check.prizes(x, "prize best 1;".repeat(many)), many);
            C.dueNone("prizes() of a fault in round " + round, x, Check.prizes(x, "prize best 25;"), 7);
            C.due("fault(0)", x.fault(0), 4);
            C.due("fault(1)", x.fault(1), 11);
            C.due("the last prize", x.given(many - 1, 0, 0), 0);
            C.dueNone("no prize behind it", x, x.given(many, 0, 0), 1);
            calls += 12;
        }
    }

    /** One board with power by the round: laid into hall 0 or 1, or not at all. */
    private static void hallsAgainAndAgain() {
        FairHall x = new FairHall();
        x.board(0, 0, 0, 50, false);
        int calls = 1;
        for (int round = 0; calls + 6 <= CALLS; round++) {
            C.due("clear() in round " + round, x.clear(), true);
            C.due("hall 0 in round " + round, x.hall(1, round % 3 == 0 ? 50 : 49, 0), 0);
            C.due("hall 1 in round " + round, x.hall(1, round % 3 == 1 ? 50 : 49, 0), 1);
            int want = round % 3 == 2 ? NONE : round % 3;
            C.due("laid(0) in round " + round, x, x.laid(0), want, want == NONE ? 8 : 0);
            C.due("tries() in round " + round, x.tries(), want == NONE ? NONE : want + 1);
            calls += 6;
        }
    }

    private static void plansAgainAndAgain() {
        FairHall x = new FairHall();
        x.board(0, 0, 0, 0, false);
        x.board(0, 0, 0, 0, false);
        for (int judge = 0; judge < 3; judge++) {
            x.judge(1, NONE, 1 + judge % 2);
        }
        // Four looks can be had at the most: judges 0 and 2 once, judge 1 twice.
        int calls = 5;
        for (int round = 0; calls + 4 <= CALLS; round++) {
            int many = 1 + round % 4;
            C.due("looks(" + many + ")", x.looks(many), true);
            C.due("plan() with " + many + " looks", x.plan(), Math.max(0, 2 * many - 4));
            C.due("judge 2 and board 0 with " + many + " looks", x.sees(2, 0), many > 2 ? 1 : 0);
            C.due("board 0 holds with " + many + " looks", x.holds(0), many > 2 ? 1 : 0);
            calls += 4;
        }
    }

    /** Mark m is told on day m and lost on day 400 - m: the latest that stands is known for each day. */
    private static void marksLostDayByDay() {
        FairHall x = new FairHall();
        x.board(0, 0, 0, 0, false);
        x.judge(0, 0, 0);
        for (int mark = 0; mark < 200; mark++) {
            C.due("mark " + mark, x.mark(0, 0, mark % 101, mark), mark);
        }
        for (int mark = 199; mark >= 0; mark--) {
            C.due("lose(" + mark + ")", x.lose(mark, 400 - mark), true);
        }
        int calls = 402;
        for (int day = 3; calls + 2 <= CALLS - 2; day += 8) {
            int latest = Math.min(day, 399 - day);
            C.due("fair(0, " + day + ")", x.fair(0, day), latest >= 0);
            if (latest >= 0) {
                C.due("upper() of day " + day, x.upper(), latest % 101);
            }
            calls += 2;
        }
        C.dueNone("lose(0, 0) again", x, x.lose(0, 0) ? 1 : NONE, 5);
    }

    /** What is called on one object is not seen on another. */
    private static void objectsSideBySide() {
        FairHall[] all = new FairHall[5];
        for (int i = 0; i < all.length; i++) {
            all[i] = new FairHall();
        }
        for (int round = 0; round < 20; round++) {
            for (int i = 0; i < all.length; i++) {
                C.due("board of object " + i, all[i].board(i, i % 4, i, i, false), round);
                C.due("hall of object " + i, all[i].hall(20, 99 * i, 0), round < 4 ? round : NONE);
                C.due("status of object " + i, all[i].status(), round < 4 ? 0 : 3);
            }
        }
        for (int i = 0; i < all.length; i++) {
            C.due("field in object " + i, all[i].told(19, 0), i);
            C.due("tries of object " + i, all[i].tries(), 20);
            C.due("plan of object " + i, all[i].plan(), 40);
            C.due("feed of object " + i, all[i].feed(0, 0, 0, 0, 0), 20);
        }
    }
}
