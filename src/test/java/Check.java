import java.nio.charset.StandardCharsets;
import java.util.function.IntUnaryOperator;

/** What the tests of the project share: counting what was due, and texts laid on the tape. */
final class Check {
    private final String name;
    private int right = 0;
    private int wrong = 0;

    Check(String name) {
        this.name = name;
    }

    void due(String call, long got, long want) {
        if (got == want) {
            right++;
        } else {
            wrong++;
            System.out.println(name + ": " + call + " answered " + got + ", due is " + want);
        }
    }

    void due(String call, boolean got, boolean want) {
        due(call, got ? 1 : 0, want ? 1 : 0);
    }

    /** A call's answer, and the status behind it. */
    void due(String call, FairHall x, long got, long want, int status) {
        due(call, got, want);
        due("status() behind " + call, x.status(), status);
    }

    void due(String call, FairHall x, boolean got, int status) {
        due(call, x, got ? 1 : 0, status == 0 ? 1 : 0, status);
    }

    void dueNone(String call, FairHall x, long got, int status) {
        due(call, x, got, FairHall.NONE, status);
    }

    void dueFraction(String call, FairHall x, boolean got, long upper, long lower) {
        due(call, x, got, 0);
        due("upper() behind " + call, x.upper(), upper);
        due("lower() behind " + call, x.lower(), lower);
    }

    /** The status of a call that was made; NONE must go with another status than 0, and with no other. */
    int statusOf(FairHall x, int answer) {
        due("an answer of NONE beside status() " + x.status(), answer == FairHall.NONE, x.status() != 0);
        return x.status();
    }

    int statusOf(FairHall x, boolean answer) {
        due("an answer of false beside status() " + x.status(), !answer, x.status() != 0);
        return x.status();
    }

    /**
     * A number from the least to the greatest is taken; one below and one above, the ends of int, and numbers
     * that would fit if their high bits were cut off are refused.
     */
    void range(String what, int least, int greatest, int refused, IntUnaryOperator statusAt) {
        for (int value : new int[] {least, Math.min(least + 1, greatest), Math.max(greatest - 1, least), greatest}) {
            due("status of " + what + " " + value, statusAt.applyAsInt(value), 0);
        }
        refusedOutside(what, least, greatest, refused, statusAt);
    }

    void refusedOutside(String what, int least, int greatest, int refused, IntUnaryOperator statusAt) {
        int[] outside = {
            least - 1, least - 2, greatest + 1, greatest + 2, Integer.MIN_VALUE, Integer.MIN_VALUE + 1,
            Integer.MAX_VALUE, Integer.MAX_VALUE - 1, greatest + (1 << 16), least - (1 << 16),
            greatest + (1 << 24), Integer.MIN_VALUE + greatest,
        };
        for (int value : outside) {
            due("status of " + what + " " + value, statusAt.applyAsInt(value), refused);
        }
    }

    void finish() {
        System.out.println(name + ": " + right + " answers as due, " + wrong + " not");
        if (wrong != 0 || right == 0) {
            System.exit(1);
        }
    }

    /** Feeds the text, blanks behind it up to the next twenty bytes. */
    static int feed(FairHall x, String text) {
        byte[] bytes = text.getBytes(StandardCharsets.ISO_8859_1);
        int have = 0;
        for (int at = 0; at < bytes.length; at += 20) {
            have = x.feed(four(bytes, at), four(bytes, at + 4), four(bytes, at + 8), four(bytes, at + 12),
                    four(bytes, at + 16));
        }
        return have;
    }

    static int prizes(FairHall x, String text) {
        feed(x, text);
        return x.prizes(text.length());
    }

    private static int four(byte[] bytes, int at) {
        int value = 0;
        for (int i = at; i < at + 4; i++) {
            value = (value << 8) | (i < bytes.length ? bytes[i] & 255 : 32);
        }
        return value;
    }
}
