import java.util.Random;

/**
 * Runs of calls by fixed seeds: FairHall must answer each as the naive model does. Some objects are used for
 * more than 512 calls, where the document leaves the answers free; FairHall goes on as before there.
 */
public final class RandomRunsTest {
    private static final Check C = new Check("RandomRunsTest");
    private static final int RUNS = 200;
    private static final int CALLS = 300;

    private final Random random;
    private final FairHall x = new FairHall();
    private final NaiveFair y = new NaiveFair();
    private final String name;
    // How a run leans: how many boards, judges and days it uses, and how often it errs.
    private final int boards;
    private final int judges;
    private final int days;
    private final int errs;
    private final int most;

    private RandomRunsTest(int seed) {
        random = new Random(seed);
        name = "run " + seed + ": ";
        boards = 1 + random.nextInt(25);
        judges = 1 + random.nextInt(13);
        days = 1 + random.nextInt(20);
        errs = 3 + random.nextInt(40);
        most = 1 + random.nextInt(10);
    }

    public static void main(String[] args) {
        int runs = args.length > 0 ? Integer.parseInt(args[0]) : RUNS;
        for (int seed = 0; seed < runs; seed++) {
            RandomRunsTest run = new RandomRunsTest(seed);
            run.begin();
            for (int call = 0; call < CALLS; call++) {
                run.anyCall();
                C.due(run.name + "status()", run.x.status(), run.y.status());
            }
        }
        for (int seed = 0; seed < 8; seed++) {
            new RandomRunsTest(seed).fullFair();
        }
        edgesOfInt();
        C.finish();
    }

    /** Most runs begin with boards, judges and prizes, so that later calls find some. */
    private void begin() {
        for (int i = 0; i < boards && random.nextInt(30) > 0; i++) {
            addBoard();
        }
        for (int i = 0; i < judges && random.nextInt(30) > 0; i++) {
            addJudge();
        }
        feedText("prize best 3;prize field 1 best 2 alone;prize seen 2 best 9;");
    }

    private void anyCall() {
        int kind = random.nextInt(100);
        if (kind < 2) {
            addBoard();
        } else if (kind < 4) {
            addJudge();
        } else if (kind < 50) {
            callOfMarks(kind);
        } else if (kind < 66) {
            callOfLooks(kind);
        } else if (kind < 84) {
            callOfPrizes(kind);
        } else {
            callOfHalls(kind);
        }
    }

    private int number(int bound) {
        if (random.nextInt(errs) == 0) {
            int[] odd = {-1, -2, bound, bound + 1, Integer.MAX_VALUE, Integer.MIN_VALUE};
            return odd[random.nextInt(odd.length)];
        }
        return random.nextInt(bound);
    }

    private int day() {
        return random.nextInt(errs * 2) == 0 ? number(1000) : random.nextInt(days);
    }

    private void addBoard() {
        int field = number(8) & (random.nextBoolean() ? 3 : -1);
        int age = number(4);
        int school = number(16);
        int power = number(random.nextBoolean() ? 10 : 100);
        boolean water = random.nextBoolean();
        C.due(name + "board", x.board(field, age, school, power, water), y.board(field, age, school, power, water));
    }

    private void addJudge() {
        int fields = number(256) | (random.nextBoolean() ? 7 : 0);
        int school = number(17) - 1;
        int limit = number(random.nextBoolean() ? most : 25);
        C.due(name + "judge", x.judge(fields, school, limit), y.judge(fields, school, limit));
    }

    private void callOfMarks(int kind) {
        int judge = number(judges);
        int board = number(boards);
        int day = day();
        if (kind < 30) {
            int points = number(random.nextBoolean() ? 101 : 4);
            // Judges and boards in two camps, so that there is more than one heap.
            int near = random.nextInt(8) == 0 ? board : (board & -2) | (judge & 1);
            C.due(name + "mark", x.mark(judge, near, points, day), y.mark(judge, near, points, day));
        } else if (kind < 39) {
            int mark = number(30);
            C.due(name + "lose", x.lose(mark, day), y.lose(mark, day));
        } else if (kind < 41) {
            C.due(name + "seen", x.seen(board, day), y.seen(board, day));
        } else if (kind < 43) {
            C.due(name + "heap", x.heap(judge, day), y.heap(judge, day));
        } else if (kind < 47) {
            C.due(name + "hardness", x.hardness(judge, day), y.hardness(judge, day));
            sameFraction();
        } else {
            C.due(name + "fair", x.fair(board, day), y.fair(board, day));
            sameFraction();
        }
    }

    private void sameFraction() {
        C.due(name + "upper()", x.upper(), y.upper());
        C.due(name + "lower()", x.lower(), y.lower());
    }

    private void callOfLooks(int kind) {
        int judge = number(12);
        int board = number(24);
        if (kind < 53) {
            C.due(name + "told", x.told(board, judge % 8), y.told(board, judge % 8));
        } else if (kind < 56) {
            C.due(name + "may", x.may(judge, board), y.may(judge, board));
        } else if (kind < 58) {
            int many = number(5);
            C.due(name + "looks", x.looks(many), y.looks(many));
        } else if (kind < 60) {
            C.due(name + "plan", x.plan(), y.plan());
            wholePlan();
        } else if (kind < 63) {
            C.due(name + "sees", x.sees(judge, board), y.sees(judge, board));
        } else {
            C.due(name + "holds", x.holds(board), y.holds(board));
        }
    }

    private void wholePlan() {
        for (int board = 0; board < 24; board++) {
            C.due(name + "holds(" + board + ")", x.holds(board), y.holds(board));
            for (int judge = 0; judge < 12; judge++) {
                C.due(name + "sees(" + judge + ", " + board + ")", x.sees(judge, board), y.sees(judge, board));
            }
        }
    }

    private void callOfPrizes(int kind) {
        if (kind < 70) {
            feedText(randomText());
        } else if (kind < 72) {
            int n = number(60);
            C.due(name + "prizes", x.prizes(n), y.prizes(n));
            sameFault();
        } else {
            int prize = number(3);
            int k = number(4);
            int day = day();
            C.due(name + "given", x.given(prize, k, day), y.given(prize, k, day));
        }
    }

    private void feedText(String text) {
        for (int at = 0; at < text.length(); at += 20) {
            int[] five = new int[5];
            for (int i = 0; i < 20; i++) {
                int b = at + i < text.length() ? text.charAt(at + i) : 32;
                five[i / 4] = (five[i / 4] << 8) | b;
            }
            C.due(name + "feed", x.feed(five[0], five[1], five[2], five[3], five[4]), y.feed(five));
        }
        if (random.nextInt(10) > 0) {
            C.due(name + "prizes of '" + text + "'", x.prizes(text.length()), y.prizes(text.length()));
            sameFault();
        }
    }

    private void sameFault() {
        for (int what = -1; what <= 2; what++) {
            C.due(name + "fault(" + what + ")", x.fault(what), y.fault(what));
        }
    }

    private String randomText() {
        StringBuilder text = new StringBuilder();
        int prizes = random.nextInt(8) == 0 ? 6 + random.nextInt(5) : random.nextInt(4);
        for (int i = 0; i < prizes; i++) {
            text.append("prize").append(blank());
            String[] wishes = {"field", "age", "school", "seen"};
            for (int wish = random.nextInt(8); wish < 4; wish += 1 + random.nextInt(3)) {
                int value = random.nextInt(3) + (wish == 3 ? 1 : 0);
                text.append(wishes[wish]).append(blank()).append(value).append(blank());
            }
            text.append("best").append(blank()).append(1 + random.nextInt(5)).append(blank());
            text.append(random.nextInt(3) == 0 ? "alone" : "").append(blank()).append(";").append(blank());
        }
        for (int i = random.nextInt(6) - 3; i > 0 && text.length() > 0; i--) {
            spoil(text);
        }
        return text.length() > 300 ? text.substring(0, 300) : text.toString();
    }

    private void spoil(StringBuilder text) {
        int at = random.nextInt(text.length());
        String[] odd = {"9", "0", "123", " 1234 ", ";", "x", "?", " ", "\n", "alone", "prize", "\u00ff", " 25 ", "field 1 "};
        int way = random.nextInt(3);
        if (way == 0) {
            text.deleteCharAt(at);
        } else if (way == 1) {
            text.insert(at, odd[random.nextInt(odd.length)]);
        } else {
            text.setLength(at);
        }
    }

    private String blank() {
        return " ".repeat(random.nextInt(20) == 0 ? 0 : 1) + "\n".repeat(random.nextInt(20) == 0 ? 1 : 0);
    }

    private void callOfHalls(int kind) {
        if (kind < 90) {
            int places = number(25);
            int power = number(random.nextBoolean() ? 100 : 1000);
            int water = number(random.nextBoolean() ? 6 : 25);
            C.due(name + "hall", x.hall(places, power, water), y.hall(places, power, water));
        } else if (kind < 92) {
            C.due(name + "clear", x.clear(), y.clear());
        } else if (kind < 97) {
            int board = number(boards);
            C.due(name + "laid(" + board + ")", x.laid(board), y.laid(board));
        } else {
            C.due(name + "tries()", x.tries(), y.tries());
        }
    }

    /** As many boards and judges as there can be, in two heaps of five judges with the largest sums. */
    private void fullFair() {
        for (int board = 0; board < 24; board++) {
            int field = random.nextInt(4);
            int school = random.nextInt(3);
            C.due(name + "board", x.board(field, 0, school, 0, false), y.board(field, 0, school, 0, false));
        }
        for (int judge = 0; judge < 12; judge++) {
            int fields = random.nextInt(16);
            int limit = random.nextInt(12);
            C.due(name + "judge", x.judge(fields, judge % 4, limit), y.judge(fields, judge % 4, limit));
        }
        for (int many = 1; many <= 4; many++) {
            C.due(name + "looks", x.looks(many), y.looks(many));
            C.due(name + "plan", x.plan(), y.plan());
            wholePlan();
        }
        for (int mark = 0; mark < 150; mark++) {
            int judge = random.nextInt(10);
            int board = random.nextInt(12) + judge / 5 * 12;
            int points = random.nextInt(101);
            C.due(name + "mark", x.mark(judge, board, points, 0), y.mark(judge, board, points, 0));
        }
        for (int judge = 0; judge < 12; judge++) {
            C.due(name + "hardness", x.hardness(judge, 0), y.hardness(judge, 0));
            sameFraction();
        }
        for (int board = 0; board < 24; board++) {
            C.due(name + "fair", x.fair(board, 0), y.fair(board, 0));
            sameFraction();
        }
        feedText("prize field 1 best 3;prize best 24;");
        for (int k = 0; k < 25; k += 3) {
            C.due(name + "given", x.given(1, k, 0), y.given(1, k, 0));
        }
    }

    /** Every call with the least and greatest ints, on an empty and on a small fair: none may throw. */
    private static void edgesOfInt() {
        int[] odd = {Integer.MIN_VALUE, Integer.MIN_VALUE + 1, -1, 0, 1, Integer.MAX_VALUE - 1, Integer.MAX_VALUE};
        for (int some = 0; some < 2; some++) {
            FairHall x = new FairHall();
            if (some == 1) {
                x.board(0, 0, 0, 0, true);
                x.judge(1, -1, 1);
                x.mark(0, 0, 1, 1);
                x.hall(1, 1, 1);
                x.plan();
                Check.prizes(x, "prize best 1;");
            }
            for (int a : odd) {
                for (int b : odd) {
                    oddCalls(x, a, b);
                }
            }
            C.due("status() is one of the ten", x.status() >= 0 && x.status() <= 10, true);
        }
    }

    private static void oddCalls(FairHall x, int a, int b) {
        x.board(a, b, a, b, false);
        x.board(0, a, 0, b, true);
        x.judge(a, b, a);
        x.judge(0, a, b);
        x.told(a, b);
        x.may(a, b);
        x.looks(a);
        x.plan();
        x.sees(a, b);
        x.holds(a);
        x.mark(a, b, a, b);
        x.mark(0, 0, a, b);
        x.lose(a, b);
        x.seen(a, b);
        x.heap(a, b);
        x.hardness(a, b);
        x.fair(a, b);
        x.feed(a, b, a, b, a);
        x.prizes(a);
        x.fault(a);
        x.given(a, b, a);
        x.given(0, a, b);
        x.hall(a, b, a);
        x.laid(a);
        x.tries();
    }
}
