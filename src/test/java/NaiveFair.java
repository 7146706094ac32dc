import java.math.BigInteger;
import java.util.ArrayList;
import java.util.HashMap;
import java.util.List;
import java.util.Map;
import java.util.TreeMap;
import java.util.TreeSet;

/** The document once more, slow and by other ways than FairHall's, to hold its answers against. */
final class NaiveFair {
    private static final int NONE = -1;

    private final List<int[]> boards = new ArrayList<>();
    private final List<int[]> judges = new ArrayList<>();
    private final List<int[]> marks = new ArrayList<>();
    private final List<int[]> halls = new ArrayList<>();
    private List<Prize> prizes = new ArrayList<>();
    private final StringBuilder tape = new StringBuilder();
    private int looks = 2;
    private boolean[][] plan = null;
    private boolean[] holding = null;
    private Ratio fraction = Ratio.of(0);
    private int faultKind = NONE;
    private int faultPlace = NONE;
    private int status = 0;
    private final Map<Integer, Integer> laidAt = new HashMap<>();

    int status() {
        return status;
    }

    // ---- looks

    int board(int field, int age, int school, int power, boolean water) {
        boolean can = in(field, 0, 7) && in(age, 0, 3) && in(school, 0, 15) && in(power, 0, 99);
        return add(boards, 24, can, field, age, school, power, water ? 1 : 0);
    }

    int judge(int fields, int school, int most) {
        return add(judges, 12, in(fields, 0, 255) && in(school, -1, 15) && in(most, 0, 24), fields, school, most);
    }

    int told(int board, int what) {
        if (!in(board, 0, boards.size() - 1)) {
            return fail(1);
        }
        if (!in(what, 0, 5)) {
            return fail(2);
        }
        int many = 0;
        for (int judge = 0; judge < judges.size(); judge++) {
            many += allows(judge, board) ? 1 : 0;
        }
        return ok(what == 5 ? many : boards.get(board)[what]);
    }

    int may(int judge, int board) {
        if (!in(judge, 0, judges.size() - 1) || !in(board, 0, boards.size() - 1)) {
            return fail(1);
        }
        return ok(allows(judge, board) ? 1 : 0);
    }

    boolean looks(int many) {
        if (!in(many, 1, 4)) {
            return fail(2) != NONE;
        }
        looks = many;
        return ok(1) == 1;
    }

    int plan() {
        int b = boards.size();
        int j = judges.size();
        // -1: open, 0: settled as not seen, 1: settled as seen.
        int[][] settled = new int[b][j];
        for (int board = 0; board < b; board++) {
            for (int judge = 0; judge < j; judge++) {
                settled[board][judge] = allows(judge, board) ? -1 : 0;
            }
        }
        int most = mostLooks(settled);
        for (int board = 0; board < b; board++) {
            for (int judge = 0; judge < j; judge++) {
                if (settled[board][judge] == -1) {
                    settled[board][judge] = 1;
                    if (mostLooks(settled) != most) {
                        settled[board][judge] = 0;
                    }
                }
            }
        }
        plan = new boolean[b][j];
        for (int board = 0; board < b; board++) {
            for (int judge = 0; judge < j; judge++) {
                plan[board][judge] = settled[board][judge] == 1;
            }
        }
        findHolding();
        return ok(looks * b - most);
    }

    int sees(int judge, int board) {
        if (plan == null) {
            return fail(4);
        }
        if (!in(board, 0, plan.length - 1) || !in(judge, 0, plan[board].length - 1)) {
            return fail(1);
        }
        return ok(plan[board][judge] ? 1 : 0);
    }

    int holds(int board) {
        if (plan == null) {
            return fail(4);
        }
        return in(board, 0, holding.length - 1) ? ok(holding[board] ? 1 : 0) : fail(1);
    }

    private boolean allows(int judge, int board) {
        int[] b = boards.get(board);
        int[] j = judges.get(judge);
        return (j[0] & (1 << b[0])) != 0 && j[1] != b[2];
    }

    /** The most looks with what is settled, by flow from a source over boards and judges; NONE if it can't be. */
    private int mostLooks(int[][] settled) {
        int b = boards.size();
        int j = judges.size();
        int source = b + j;
        int sink = b + j + 1;
        int[][] room = new int[b + j + 2][b + j + 2];
        int have = 0;
        for (int board = 0; board < b; board++) {
            room[source][board] = looks;
        }
        for (int judge = 0; judge < j; judge++) {
            room[b + judge][sink] = judges.get(judge)[2];
        }
        for (int board = 0; board < b; board++) {
            for (int judge = 0; judge < j; judge++) {
                if (settled[board][judge] == 1) {
                    have++;
                    if (--room[source][board] < 0 || --room[b + judge][sink] < 0) {
                        return NONE;
                    }
                } else if (settled[board][judge] == -1) {
                    room[board][b + judge] = 1;
                }
            }
        }
        while (push(room, source, sink, new boolean[b + j + 2])) {
            have++;
        }
        return have;
    }

    private static boolean push(int[][] room, int from, int sink, boolean[] been) {
        if (from == sink) {
            return true;
        }
        been[from] = true;
        for (int to = 0; to < room.length; to++) {
            if (!been[to] && room[from][to] > 0 && push(room, to, sink, been)) {
                room[from][to]--;
                room[to][from]++;
                return true;
            }
        }
        return false;
    }

    private void findHolding() {
        holding = new boolean[plan.length];
        for (int board = 0; board < plan.length; board++) {
            int have = 0;
            for (boolean sees : plan[board]) {
                have += sees ? 1 : 0;
            }
            holding[board] = have < looks;
        }
        boolean more = true;
        while (more) {
            more = false;
            for (int from = 0; from < plan.length; from++) {
                for (int to = 0; to < plan.length; to++) {
                    for (int judge = 0; judge < judges.size(); judge++) {
                        if (holding[from] && !holding[to] && allows(judge, from) && !plan[from][judge]
                                && plan[to][judge]) {
                            holding[to] = true;
                            more = true;
                        }
                    }
                }
            }
        }
    }

    // ---- marks

    int mark(int judge, int board, int mark, int day) {
        if (!in(judge, 0, judges.size() - 1) || !in(board, 0, boards.size() - 1)) {
            return fail(1);
        }
        return add(marks, 200, in(mark, 0, 100) && isDay(day), judge, board, mark, day, 5000);
    }

    boolean lose(int mark, int day) {
        if (!in(mark, 0, marks.size() - 1)) {
            return fail(1) != NONE;
        }
        if (!isDay(day)) {
            return fail(2) != NONE;
        }
        if (marks.get(mark)[4] != 5000) {
            return fail(5) != NONE;
        }
        marks.get(mark)[4] = day;
        return ok(1) == 1;
    }

    int seen(int board, int day) {
        if (!in(board, 0, boards.size() - 1)) {
            return fail(1);
        }
        if (!isDay(day)) {
            return fail(2);
        }
        return ok(pointsOf(board, day).size());
    }

    int heap(int judge, int day) {
        if (!in(judge, 0, judges.size() - 1)) {
            return fail(1);
        }
        if (!isDay(day)) {
            return fail(2);
        }
        TreeSet<Integer> heap = heapOf(judge, day);
        return heap.isEmpty() ? fail(6) : ok(heap.first());
    }

    boolean hardness(int judge, int day) {
        if (heap(judge, day) == NONE) {
            return false;
        }
        TreeSet<Integer> heap = heapOf(judge, day);
        if (heap.size() > 5) {
            return fail(9) != NONE;
        }
        fraction = weigh(heap, day).get(judge);
        return true;
    }

    boolean fair(int board, int day) {
        if (seen(board, day) == NONE) {
            return false;
        }
        TreeMap<Integer, Integer> points = pointsOf(board, day);
        if (points.isEmpty()) {
            return fail(6) != NONE;
        }
        if (heapOf(points.firstKey(), day).size() > 5) {
            return fail(9) != NONE;
        }
        fraction = fairOf(board, day);
        return true;
    }

    long upper() {
        return fraction.upper.longValueExact();
    }

    long lower() {
        return fraction.lower.longValueExact();
    }

    private Ratio fairOf(int board, int day) {
        TreeMap<Integer, Integer> points = pointsOf(board, day);
        Map<Integer, Ratio> hard = weigh(heapOf(points.firstKey(), day), day);
        Ratio sum = Ratio.of(0);
        for (int judge : points.keySet()) {
            sum = sum.plus(Ratio.of(points.get(judge)).minus(hard.get(judge)));
        }
        return sum.by(Ratio.of(points.size()));
    }

    /** Judge to points. */
    private TreeMap<Integer, Integer> pointsOf(int board, int day) {
        TreeMap<Integer, Integer> latest = new TreeMap<>();
        for (int mark = 0; mark < marks.size(); mark++) {
            int[] m = marks.get(mark);
            if (m[1] == board && m[3] <= day && m[4] > day) {
                Integer old = latest.get(m[0]);
                if (old == null || marks.get(old)[3] <= m[3]) {
                    latest.put(m[0], mark);
                }
            }
        }
        latest.replaceAll((judge, mark) -> marks.get(mark)[2]);
        return latest;
    }

    private TreeSet<Integer> heapOf(int judge, int day) {
        TreeSet<Integer> heap = new TreeSet<>();
        List<TreeSet<Integer>> shared = new ArrayList<>();
        for (int board = 0; board < boards.size(); board++) {
            shared.add(new TreeSet<>(pointsOf(board, day).keySet()));
            if (shared.get(board).contains(judge)) {
                heap.add(judge);
            }
        }
        int before = NONE;
        while (before != heap.size()) {
            before = heap.size();
            for (TreeSet<Integer> some : shared) {
                if (some.stream().anyMatch(heap::contains)) {
                    heap.addAll(some);
                }
            }
        }
        return heap;
    }

    /** Least squares over hardness and worth together, by elimination on fractions without a bound. */
    private Map<Integer, Ratio> weigh(TreeSet<Integer> heap, int day) {
        List<Integer> members = new ArrayList<>(heap);
        List<TreeMap<Integer, Integer>> rows = new ArrayList<>();
        for (int board = 0; board < boards.size(); board++) {
            TreeMap<Integer, Integer> points = pointsOf(board, day);
            if (!points.isEmpty() && heap.contains(points.firstKey())) {
                rows.add(points);
            }
        }
        int judgesHere = members.size();
        int all = judgesHere + rows.size();
        Ratio[][] a = new Ratio[all + 1][all + 1];
        for (Ratio[] row : a) {
            java.util.Arrays.fill(row, Ratio.of(0));
        }
        for (int r = 0; r < rows.size(); r++) {
            int worth = judgesHere + r;
            for (Map.Entry<Integer, Integer> mark : rows.get(r).entrySet()) {
                int judge = members.indexOf(mark.getKey());
                for (int one : new int[] {judge, worth}) {
                    a[one][judge] = a[one][judge].plus(Ratio.of(1));
                    a[one][worth] = a[one][worth].plus(Ratio.of(1));
                    a[one][all] = a[one][all].plus(Ratio.of(mark.getValue()));
                }
            }
        }
        for (int judge = 0; judge < judgesHere; judge++) {
            a[all][judge] = Ratio.of(1);
        }
        Ratio[] solved = eliminate(a, all);
        Map<Integer, Ratio> hard = new HashMap<>();
        for (int judge = 0; judge < judgesHere; judge++) {
            hard.put(members.get(judge), solved[judge]);
        }
        return hard;
    }

    private static Ratio[] eliminate(Ratio[][] a, int unknowns) {
        for (int column = 0; column < unknowns; column++) {
            int pivot = column;
            while (a[pivot][column].isZero()) {
                pivot++;
            }
            Ratio[] row = a[pivot];
            a[pivot] = a[column];
            a[column] = row;
            for (int other = 0; other < a.length; other++) {
                if (other != column && !a[other][column].isZero()) {
                    Ratio times = a[other][column].by(row[column]);
                    for (int k = column; k <= unknowns; k++) {
                        a[other][k] = a[other][k].minus(times.times(row[k]));
                    }
                }
            }
        }
        Ratio[] solved = new Ratio[unknowns];
        for (int i = 0; i < unknowns; i++) {
            solved[i] = a[i][unknowns].by(a[i][i]);
        }
        return solved;
    }

    // ---- prizes

    int feed(int... five) {
        if (tape.length() + 20 > 300) {
            return NONE;
        }
        for (int four : five) {
            for (int shift = 24; shift >= 0; shift -= 8) {
                tape.append((char) ((four >>> shift) & 255));
            }
        }
        return tape.length();
    }

    int prizes(int n) {
        if (n < 0 || n > tape.length()) {
            return fail(2);
        }
        String text = tape.substring(0, n);
        tape.setLength(0);
        List<Prize> fresh = new ArrayList<>();
        faultKind = 0;
        faultPlace = NONE;
        readAll(text, fresh);
        if (faultKind != 0) {
            return fail(7);
        }
        prizes = fresh;
        return ok(prizes.size());
    }

    int fault(int what) {
        return what == 0 ? faultKind : what == 1 ? faultPlace : NONE;
    }

    int given(int prize, int k, int day) {
        if (!in(prize, 0, prizes.size() - 1) || k < 0) {
            return fail(1);
        }
        if (!isDay(day)) {
            return fail(2);
        }
        for (int judge = 0; judge < judges.size(); judge++) {
            if (heapOf(judge, day).size() > 5) {
                return fail(9);
            }
        }
        List<Integer> places = placesOf(prize, day);
        return k < places.size() ? ok(places.get(k)) : fail(1);
    }

    private List<Integer> placesOf(int prize, int day) {
        Map<Integer, Ratio> fairs = new TreeMap<>();
        for (int board = 0; board < boards.size(); board++) {
            if (!pointsOf(board, day).isEmpty()) {
                fairs.put(board, fairOf(board, day));
            }
        }
        TreeSet<Integer> haveOne = new TreeSet<>();
        List<Integer> places = new ArrayList<>();
        for (Prize each : prizes.subList(0, prize + 1)) {
            List<Integer> wished = new ArrayList<>();
            for (int board : fairs.keySet()) {
                if (each.wants(boards.get(board), pointsOf(board, day).size())
                        && !(each.alone && haveOne.contains(board))) {
                    wished.add(board);
                }
            }
            wished.sort((one, other) -> fairs.get(other).compareTo(fairs.get(one)));
            places = wished.subList(0, Math.min(each.best, wished.size()));
            haveOne.addAll(places);
        }
        return places;
    }

    /** A table of what may follow: the text is walked once, each token looked at with all that went ahead. */
    private void readAll(String text, List<Prize> into) {
        // 0 between prizes, 1 wishes or best, 2 number of a wish, 3 number of best, 4 alone or stop, 5 stop
        int state = 0;
        String wish = "";
        int at = 0;
        while (true) {
            while (at < text.length() && (text.charAt(at) == ' ' || text.charAt(at) == '\n')) {
                at++;
            }
            int start = at;
            while (at < text.length() && kindOf(text.charAt(at)) == kindOf(text.charAt(start))
                    && (at == start || "wn".indexOf(kindOf(text.charAt(start))) >= 0)) {
                at++;
            }
            String token = text.substring(start, at);
            int kind = judgeToken(token, state, wish, into);
            if (kind != 0) {
                faultKind = kind;
                faultPlace = start;
                return;
            }
            if (token.isEmpty()) {
                return;
            }
            if (state == 0) {
                into.add(new Prize());
                state = 1;
            } else if (state == 1) {
                wish = token;
                state = token.equals("best") ? 3 : 2;
            } else if (state == 2) {
                into.get(into.size() - 1).wishes.put(wish, Integer.parseInt(token));
                state = 1;
            } else if (state == 3) {
                into.get(into.size() - 1).best = Integer.parseInt(token);
                state = 4;
            } else if (token.equals("alone")) {
                into.get(into.size() - 1).alone = true;
                state = 5;
            } else {
                state = 0;
            }
        }
    }

    private static char kindOf(char c) {
        return c >= 'a' && c <= 'z' ? 'w' : c >= '0' && c <= '9' ? 'n' : c == ';' ? ';' : '?';
    }

    private static int judgeToken(String token, int state, String wish, List<Prize> so) {
        if (token.isEmpty()) {
            return state == 0 ? 0 : 2;
        }
        char kind = kindOf(token.charAt(0));
        if (kind == '?' || (kind == 'n' && token.length() > 3)) {
            return 1;
        }
        boolean fits;
        if (state == 0) {
            fits = token.equals("prize");
        } else if (state == 1) {
            fits = List.of("field", "age", "school", "seen", "best").contains(token);
        } else if (state == 2 || state == 3) {
            fits = kind == 'n';
        } else {
            fits = token.equals(";") || (state == 4 && token.equals("alone"));
        }
        if (!fits) {
            return 2;
        }
        if (state == 0 && so.size() == 8) {
            return 3;
        }
        if (kind == 'n') {
            int least = wish.equals("best") || wish.equals("seen") ? 1 : 0;
            int greatest = Map.of("best", 24, "field", 7, "age", 3, "school", 15, "seen", 12).get(wish);
            return in(Integer.parseInt(token), least, greatest) ? 0 : 4;
        }
        return state == 1 && so.get(so.size() - 1).wishes.containsKey(token) ? 5 : 0;
    }

    private static final class Prize {
        private final Map<String, Integer> wishes = new HashMap<>();
        private int best = 0;
        private boolean alone = false;

        private boolean wants(int[] board, int marks) {
            return wishes.getOrDefault("field", board[0]) == board[0]
                    && wishes.getOrDefault("age", board[1]) == board[1]
                    && wishes.getOrDefault("school", board[2]) == board[2]
                    && wishes.getOrDefault("seen", 1) <= marks;
        }
    }

    // ---- halls

    int hall(int places, int power, int water) {
        return add(halls, 4, in(places, 0, 24) && in(power, 0, 999) && in(water, 0, 24), places, power, water);
    }

    boolean clear() {
        halls.clear();
        return ok(1) == 1;
    }

    int laid(int board) {
        if (!in(board, 0, boards.size() - 1)) {
            return fail(1);
        }
        return tries() == NONE ? NONE : laidAt.get(board);
    }

    int tries() {
        laidAt.clear();
        int[] tries = {0};
        boolean found = lay(0, tries);
        return tries[0] > 20000 ? fail(10) : found ? ok(tries[0]) : fail(8);
    }

    private boolean lay(int board, int[] tries) {
        if (board == boards.size()) {
            return true;
        }
        for (int hall = 0; hall < halls.size(); hall++) {
            tries[0]++;
            if (tries[0] > 20000) {
                return false;
            }
            laidAt.put(board, hall);
            if (bears(hall, board) && lay(board + 1, tries)) {
                return true;
            }
        }
        laidAt.remove(board);
        return false;
    }

    private boolean bears(int hall, int last) {
        int[] left = halls.get(hall).clone();
        for (int board = 0; board <= last; board++) {
            if (laidAt.get(board) == hall) {
                left[0] -= 1;
                left[1] -= boards.get(board)[3];
                left[2] -= boards.get(board)[4];
            }
        }
        return left[0] >= 0 && left[1] >= 0 && left[2] >= 0;
    }

    // ---- all

    private int add(List<int[]> rows, int most, boolean can, int... row) {
        if (!can) {
            return fail(2);
        }
        if (rows.size() == most) {
            return fail(3);
        }
        rows.add(row);
        return ok(rows.size() - 1);
    }

    private int ok(int answer) {
        status = 0;
        return answer;
    }

    private int fail(int why) {
        status = why;
        return NONE;
    }

    private static boolean in(int value, int least, int greatest) {
        return value >= least && value <= greatest;
    }

    private static boolean isDay(int day) {
        return in(day, 0, 999);
    }

    /** A fraction without a bound. */
    private static final class Ratio implements Comparable<Ratio> {
        private final BigInteger upper;
        private final BigInteger lower;

        private Ratio(BigInteger upper, BigInteger lower) {
            BigInteger divisor = upper.gcd(lower);
            if (lower.signum() < 0) {
                divisor = divisor.negate();
            }
            this.upper = upper.divide(divisor);
            this.lower = lower.divide(divisor);
        }

        private static Ratio of(long whole) {
            return new Ratio(BigInteger.valueOf(whole), BigInteger.ONE);
        }

        private boolean isZero() {
            return upper.signum() == 0;
        }

        private Ratio plus(Ratio other) {
            return new Ratio(upper.multiply(other.lower).add(other.upper.multiply(lower)),
                    lower.multiply(other.lower));
        }

        private Ratio minus(Ratio other) {
            return plus(new Ratio(other.upper.negate(), other.lower));
        }

        private Ratio times(Ratio other) {
            return new Ratio(upper.multiply(other.upper), lower.multiply(other.lower));
        }

        private Ratio by(Ratio other) {
            return new Ratio(upper.multiply(other.lower), lower.multiply(other.upper));
        }

        @Override
        public int compareTo(Ratio other) {
            return upper.multiply(other.lower).compareTo(other.upper.multiply(lower));
        }
    }
}
