import java.util.function.IntUnaryOperator;

/** Part 3 and promises 19 to 21 at their boundaries: a method for each sentence that names one. */
public final class PrizesEdgesTest {
    private static final int NONE = FairHall.NONE;
    private static final int MIN = Integer.MIN_VALUE;
    private static final int MAX = Integer.MAX_VALUE;
    private static final int BLANKS = 0x20202020;
    private static final String ONE = "prize best 1;";
    private static final Check C = new Check("PrizesEdgesTest");

    public static void main(String[] args) {
        tapeOf300();
        highestByteFirst();
        behindThoseOnTheTape();
        allBytesOfAnInt();
        firstNBytes();
        nBelow0OrMoreThanTheTape();
        emptyThen();
        inPlaceOfAllOthers();
        nothingOfOldTexts();
        faultyTextLeavesThePrizes();
        emptyText();
        textOf300Bytes();
        blanks();
        words();
        numbersOf1To3Digits();
        stops();
        prizeInFull();
        wishesAnyNumberOfTimes();
        aloneOrNot();
        atMost8Prizes();
        bestFrom1To24();
        fieldFrom0To7();
        ageFrom0To3();
        schoolFrom0To15();
        seenFrom1To12();
        fault1NoToken();
        fault1FourDigits();
        fault2CannotStandThere();
        fault2TheEnd();
        fault3Ninth();
        fault4TooSmallOrGreat();
        fault5ToldInThisPrize();
        firstAlongTheText();
        ofOneTokenTheLeastKind();
        faultAheadOfAny();
        faultOfTheLatest();
        faultWhat();
        C.finish();
    }

    private static int feedBlanks(FairHall x) {
        return x.feed(BLANKS, BLANKS, BLANKS, BLANKS, BLANKS);
    }

    private static void good(String text, int many) {
        FairHall x = new FairHall();
        C.due("prizes of '" + text + "'", x, Check.prizes(x, text), many, 0);
        C.due("fault(0) of '" + text + "'", x.fault(0), 0);
        C.due("fault(1) of '" + text + "'", x.fault(1), NONE);
    }

    private static void bad(String text, int kind, int place) {
        FairHall x = new FairHall();
        C.dueNone("prizes of '" + text + "'", x, Check.prizes(x, text), 7);
        C.due("fault(0) of '" + text + "'", x.fault(0), kind);
        C.due("fault(1) of '" + text + "'", x.fault(1), place);
    }

    // Promise 19: "Twenty bytes come behind those on the tape, the highest of each int first: how many it has; NONE
    // if there would be more than 300."

    private static void tapeOf300() {
        FairHall x = new FairHall();
        for (int i = 1; i <= 15; i++) {
            C.due("feed " + i, feedBlanks(x), 20 * i);
        }
        C.due("a feed for 320", x.feed(MIN, MAX, 0, -1, 1), NONE);
        C.due("once more", feedBlanks(x), NONE);
        C.due("feed has no status", x.status(), 0);
        C.dueNone("the tape has not grown", x, x.prizes(301), 2);
        C.due("nothing has changed on it", x, x.prizes(300), 0, 0);
        C.due("it has room again", feedBlanks(x), 20);
    }

    private static void highestByteFirst() {
        FairHall x = new FairHall();
        // "priz" "e be" "st 1" ";   " and blanks.
        x.feed(0x7072697a, 0x65206265, 0x73742031, 0x3b202020, BLANKS);
        C.due("bytes in order", x, x.prizes(20), 1, 0);
        x.feed(0x7a697270, 0x65622065, 0x31207473, 0x2020203b, BLANKS);
        C.dueNone("bytes of each int turned round", x, x.prizes(20), 7);
        C.due("its place", x.fault(1), 0);
        for (int place = 0; place < 20; place++) {
            int[] five = {BLANKS, BLANKS, BLANKS, BLANKS, BLANKS};
            five[place / 4] = BLANKS & ~(255 << (24 - place % 4 * 8)) | '?' << (24 - place % 4 * 8);
            FairHall y = new FairHall();
            y.feed(five[0], five[1], five[2], five[3], five[4]);
            C.dueNone("byte " + place, y, y.prizes(20), 7);
            C.due("its place", y.fault(1), place);
        }
    }

    private static void behindThoseOnTheTape() {
        for (int ahead = 0; ahead < 15; ahead++) {
            FairHall x = new FairHall();
            for (int i = 0; i < ahead; i++) {
                feedBlanks(x);
            }
            C.due("twenty more", x.feed('?', BLANKS, BLANKS, BLANKS, BLANKS), 20 * ahead + 20);
            C.dueNone("a text of " + (20 * ahead + 20), x, x.prizes(20 * ahead + 20), 7);
            // Its three zero bytes stand ahead of the question mark.
            C.due("its place", x.fault(1), 20 * ahead);
        }
    }

    /** Which bytes are a blank, begin a word, a number, a stop, or nothing. */
    private static void allBytesOfAnInt() {
        for (int value = 0; value < 256; value++) {
            FairHall x = new FairHall();
            x.feed(value << 24, 0, 0, 0, 0);
            boolean blank = value == 10 || value == 32;
            boolean token = value >= 'a' && value <= 'z' || value >= '0' && value <= '9' || value == ';';
            C.due("prizes of byte " + value, x, x.prizes(1), blank ? 0 : NONE, blank ? 0 : 7);
            C.due("fault(0) of byte " + value, x.fault(0), blank ? 0 : token ? 2 : 1);
            C.due("fault(1) of byte " + value, x.fault(1), blank ? NONE : 0);
        }
    }

    // Promise 20: "The first n bytes of the tape (which is empty then) are a TEXT: how many PRIZES there are now in
    // place of all others (2: n below 0, or more than the tape has; 7: the tape is empty then, too)."

    private static void firstNBytes() {
        String text = ONE + "prize best 2;";
        for (int n = 0; n <= 40; n++) {
            FairHall x = new FairHall();
            Check.feed(x, text);
            int many = n == 0 ? 0 : n == 13 ? 1 : n >= 26 ? 2 : NONE;
            C.due("the first " + n + " bytes", x, x.prizes(n), many, many == NONE ? 7 : 0);
            C.due("their fault", x.fault(0), many == NONE ? 2 : 0);
        }
    }

    private static void nBelow0OrMoreThanTheTape() {
        C.range("n of a tape of 20", 0, 20, 2, n -> {
            FairHall x = new FairHall();
            feedBlanks(x);
            int status = C.statusOf(x, x.prizes(n));
            C.due("the tape behind prizes(" + n + ")", feedBlanks(x), status == 0 ? 20 : 40);
            return status;
        });
        C.range("n of a tape of 300", 0, 300, 2, n -> {
            FairHall x = new FairHall();
            for (int i = 0; i < 15; i++) {
                feedBlanks(x);
            }
            return C.statusOf(x, x.prizes(n));
        });
        C.range("n of an empty tape", 0, 0, 2, n -> {
            FairHall x = new FairHall();
            return C.statusOf(x, x.prizes(n));
        });
    }

    private static void emptyThen() {
        FairHall x = new FairHall();
        Check.feed(x, ONE);
        x.prizes(0);
        C.dueNone("empty behind prizes(0)", x, x.prizes(1), 2);
        Check.feed(x, ONE);
        x.prizes(13);
        C.dueNone("empty behind prizes(13) of 20", x, x.prizes(1), 2);
        Check.feed(x, ONE + ONE);
        C.dueNone("a fault", x, x.prizes(20), 7);
        C.dueNone("empty behind a fault", x, x.prizes(1), 2);
        Check.feed(x, "?");
        C.dueNone("a fault at the first byte", x, x.prizes(1), 7);
        C.due("a tape anew", feedBlanks(x), 20);
        C.due("with nothing of the old one", x, x.prizes(20), 0, 0);
    }

    private static void inPlaceOfAllOthers() {
        FairHall x = marked(3);
        C.due("eight prizes", x, Check.prizes(x, ONE.repeat(8)), 8, 0);
        C.due("the last of them", x, x.given(7, 0, 0), 2, 0);
        C.due("two prizes", x, Check.prizes(x, "prize best 3; prize best 1 alone;"), 2, 0);
        C.due("the first of them", x, x.given(0, 2, 0), 0, 0);
        C.dueNone("the second: all have one", x, x.given(1, 0, 0), 1);
        C.dueNone("none of the old ones", x, x.given(2, 0, 0), 1);
        C.due("one without wishes or alone", x, Check.prizes(x, "prize age 1 best 1; prize best 1;"), 2, 0);
        C.due("as the new one says", x, x.given(1, 0, 0), 2, 0);
        C.due("no prizes", x, x.prizes(0), 0, 0);
        C.dueNone("all are gone", x, x.given(0, 0, 0), 1);
    }

    /** Of three boards the best two, whatever texts came ahead, and how many. */
    private static void nothingOfOldTexts() {
        String[] old = {
            "prize best 3; prize best 3 alone;", "prize field 7 best 1; prize age 3 best 1;",
            "prize school 9 best 1; prize seen 12 best 1;", "prize best 1; prize best 0;", "prize best 3 alone;",
        };
        for (String one : old) {
            FairHall x = marked(3);
            for (String other : old) {
                Check.prizes(x, one);
                Check.prizes(x, other);
                C.due("two behind '" + one + "' and '" + other + "'", x,
                        Check.prizes(x, "prize best 2; prize best 2;"), 2, 0);
                for (int prize = 0; prize < 2; prize++) {
                    C.due("place 0 of prize " + prize, x.given(prize, 0, 0), 2);
                    C.due("place 1 of prize " + prize, x.given(prize, 1, 0), 1);
                    C.due("place 2 of prize " + prize, x.given(prize, 2, 0), NONE);
                }
            }
        }
    }

    private static void faultyTextLeavesThePrizes() {
        FairHall x = marked(3);
        Check.prizes(x, "prize best 2;prize best 1 alone;");
        String[] faulty = {"?", "prize", ONE.repeat(9), ONE + "prize best 0;", "prize age 1 age"};
        for (String text : faulty) {
            C.dueNone("prizes of '" + text + "'", x, Check.prizes(x, text), 7);
            C.due("prize 0, place 0", x, x.given(0, 0, 0), 2, 0);
            C.due("prize 0, place 1", x, x.given(0, 1, 0), 1, 0);
            C.dueNone("prize 0, place 2", x, x.given(0, 2, 0), 1);
            C.due("prize 1, place 0", x, x.given(1, 0, 0), 0, 0);
            C.dueNone("prize 2", x, x.given(2, 0, 0), 1);
        }
    }

    /** Boards marked 1, 2, 3 .. by one judge: the last is the best. */
    private static FairHall marked(int boards) {
        FairHall x = new FairHall();
        x.judge(1, NONE, 0);
        for (int board = 0; board < boards; board++) {
            x.board(0, 0, 0, 0, false);
            x.mark(0, board, board + 1, 0);
        }
        return x;
    }

    // Part 3: "TEXTS of prizes have at most 300 bytes: {PRIZE}, blanks (10, 32) between TOKENS: WORDS (small
    // letters), NUMBERS (1 to 3 digits), ;"

    private static void emptyText() {
        good("", 0);
        good(" ", 0);
        good("\n", 0);
        good(" ".repeat(300), 0);
    }

    private static void textOf300Bytes() {
        good(" ".repeat(287) + ONE, 1);
        good(ONE + " ".repeat(287), 1);
        good("\n".repeat(286) + ONE + " ", 1);
        bad(" ".repeat(299) + "?", 1, 299);
        bad(" ".repeat(299) + ";", 2, 299);
        bad(" ".repeat(288) + "prize best 1", 2, 300);
        bad(" ".repeat(288) + "prize best 0", 4, 299);
        bad(" ".repeat(289) + "prize best ", 2, 300);
        bad("a".repeat(300), 2, 0);
        bad("1".repeat(300), 1, 0);
        bad(";".repeat(300), 2, 0);
        String wishes = "prize field 7 age 3 school 15 seen 12 best 24 alone;";
        good(wishes.repeat(5), 5);
        bad(wishes.repeat(5) + wishes.substring(0, 38) + "  ", 2, 300);
        bad(wishes.repeat(5) + wishes.substring(0, 40), 2, 298);
    }

    private static void blanks() {
        good("prize\nbest\n1\nalone\n;\n", 1);
        good(" \n prize \n best \n\n 1   alone ;", 1);
        for (char odd : new char[] {0, 9, 11, 12, 13, 31, 33, 128, 160, 255}) {
            bad("prize" + odd + "best 1;", 1, 5);
            bad(ONE + odd, 1, 13);
        }
    }

    private static void words() {
        bad("a", 2, 0);
        bad("z", 2, 0);
        bad("`", 1, 0);
        bad("{", 1, 0);
        bad("A", 1, 0);
        bad("Z", 1, 0);
        bad("_", 1, 0);
        bad("priz", 2, 0);
        bad("prizes best 1;", 2, 0);
        bad("prizebest 1;", 2, 0);
        bad("prize besT 1;", 2, 6);
        bad("prize bestalone 1;", 2, 6);
        bad("prize agee 1 best 1;", 2, 6);
        bad("prize ag 1 best 1;", 2, 6);
        bad("prize see 1 best 1;", 2, 6);
        bad("prize seem 1 best 1;", 2, 6);
        bad("prize schools 1 best 1;", 2, 6);
        bad("prize fiel 1 best 1;", 2, 6);
        bad("prize best 1 alon;", 2, 13);
        bad("prize best 1 alonee;", 2, 13);
        letterByLetter("", "prize", " best 1;");
        letterByLetter("prize ", "best", " 1;");
        letterByLetter("prize best 1 ", "alone", ";");
        for (String wish : new String[] {"field", "age", "school", "seen"}) {
            letterByLetter("prize ", wish, " 1 best 1;");
        }
    }

    /** With one letter in place of another, and with one left out, a word is another word. */
    private static void letterByLetter(String ahead, String word, String behind) {
        good(ahead + word + behind, 1);
        for (int i = 0; i < word.length(); i++) {
            String head = ahead + word.substring(0, i);
            String tail = word.substring(i + 1) + behind;
            bad(head + (word.charAt(i) == 'x' ? 'y' : 'x') + tail, 2, ahead.length());
            bad(head + tail, 2, ahead.length());
            bad(head + word.charAt(i) + word.charAt(i) + tail, 2, ahead.length());
        }
    }

    private static void numbersOf1To3Digits() {
        good("prize best 1;", 1);
        good("prize best 01;", 1);
        good("prize best 001;", 1);
        bad("prize best 0001;", 1, 11);
        bad("prize best 1000;", 1, 11);
        bad("prize best 99999999999999999999;", 1, 11);
        good("prize best 024;", 1);
        bad("prize best /;", 1, 11);
        bad("prize best :;", 1, 11);
        bad("prize best +1;", 1, 11);
        bad("prize best 1.0;", 1, 12);
        bad("prize best 1 1;", 2, 13);
        bad("prize best one;", 2, 11);
    }

    private static void stops() {
        good("prize best 1;", 1);
        good("prize best 1 ;", 1);
        good("prize best 1 ;prize best 1\n;", 2);
        bad("prize best 1:", 1, 12);
        bad("prize best 1,", 1, 12);
        bad("prize best 1;;", 2, 13);
        bad("prize; best 1;", 2, 5);
    }

    // Part 3: "PRIZE: prize {WISH} best NUMBER [alone] ;   WISH: field NUMBER, age NUMBER, school NUMBER, or seen
    // NUMBER.   ({ } any number of times, [ ] perhaps.)"

    private static void prizeInFull() {
        good("prize field 0 age 0 school 0 seen 1 best 1 alone ;", 1);
        bad("field 0 best 1;", 2, 0);
        bad("prize 1 best 1;", 2, 6);
        bad("prize field best 1;", 2, 12);
        bad("prize field 0 1 best 1;", 2, 14);
        bad("prize field 0 ;", 2, 14);
        bad("prize best field 0;", 2, 11);
        bad("prize best 1 field 0;", 2, 13);
        bad("prize best 1 best 1;", 2, 13);
        bad("prize best 1 prize best 1;", 2, 13);
    }

    private static void wishesAnyNumberOfTimes() {
        String[] wish = {"field 0 ", "age 0 ", "school 0 ", "seen 1 "};
        for (int some = 0; some < 16; some++) {
            StringBuilder up = new StringBuilder("prize ");
            StringBuilder down = new StringBuilder("prize ");
            for (int i = 0; i < 4; i++) {
                up.append((some >> i & 1) == 1 ? wish[i] : "");
                down.append((some >> (3 - i) & 1) == 1 ? wish[3 - i] : "");
            }
            good(up + "best 1;", 1);
            good(down + "best 1 alone;", 1);
        }
    }

    private static void aloneOrNot() {
        good("prize best 1 alone;", 1);
        bad("prize best 1 alone alone;", 2, 19);
        bad("prize alone best 1;", 2, 6);
        bad("prize best alone 1;", 2, 11);
        bad("prize best 1; alone", 2, 14);
    }

    // Part 3: "At most 8 PRIZES; best 1 to 24; field 0 to 7, age 0 to 3, school 0 to 15, seen 1 to 12"

    private static void atMost8Prizes() {
        for (int many = 0; many <= 8; many++) {
            good(ONE.repeat(many), many);
        }
        for (int many = 9; many <= 12; many++) {
            bad(ONE.repeat(many), 3, 104);
        }
    }

    private static void numbers(String ahead, String behind, int least, int greatest) {
        for (int value = 0; value <= 999; value++) {
            FairHall x = new FairHall();
            boolean can = value >= least && value <= greatest;
            int answer = Check.prizes(x, ahead + value + behind);
            C.due(ahead + value, x, answer, can ? 1 : NONE, can ? 0 : 7);
            C.due("fault(0) of " + ahead + value, x.fault(0), can ? 0 : 4);
            C.due("fault(1) of " + ahead + value, x.fault(1), can ? NONE : ahead.length());
        }
    }

    private static void bestFrom1To24() {
        numbers("prize best ", ";", 1, 24);
    }

    private static void fieldFrom0To7() {
        numbers("prize field ", " best 1;", 0, 7);
    }

    private static void ageFrom0To3() {
        numbers("prize age ", " best 1;", 0, 3);
    }

    private static void schoolFrom0To15() {
        numbers("prize school ", " best 1;", 0, 15);
    }

    private static void seenFrom1To12() {
        numbers("prize seen ", " best 1;", 1, 12);
    }

    // Part 3: "FAULTS, the first along the text (of one TOKEN the least kind): 1 no TOKEN begins so (a NUMBER of 4
    // digits and more: at its first)."

    private static void fault1NoToken() {
        bad("-", 1, 0);
        bad("  -", 1, 2);
        bad("prize -", 1, 6);
        bad("prize-", 1, 5);
        bad("prize best -1;", 1, 11);
        bad("prize best 1-;", 1, 12);
        bad("prize best 1 alone-;", 1, 18);
        bad("prize best 1;-", 1, 13);
        bad("prize field -", 1, 12);
    }

    private static void fault1FourDigits() {
        bad("1000", 1, 0);
        bad("prize 1000", 1, 6);
        bad("prize field 0000 best 1;", 1, 12);
        bad("prize best 12345;", 1, 11);
        bad("prize best1000;", 1, 10);
        bad("prize best 1 1000;", 1, 13);
        bad(ONE + "1000", 1, 13);
        FairHall x = new FairHall();
        Check.feed(x, "prize best 1000;");
        C.dueNone("cut off behind the third digit", x, x.prizes(14), 7);
        C.due("it is a number of three", x.fault(0), 4);
    }

    // Part 3: "2 it can't stand there (the end: the text's length)."

    private static void fault2CannotStandThere() {
        bad("x", 2, 0);
        bad("\n \n12", 2, 3);
        bad("prize prize", 2, 6);
        bad("prize best best", 2, 11);
        bad("prize seen seen", 2, 11);
        bad("prize best 1 x;", 2, 13);
        bad("prize best 1 alone 1;", 2, 19);
        bad("prize best 1; x", 2, 14);
    }

    private static void fault2TheEnd() {
        String[] ahead = {
            "prize", "prize field", "prize field 0", "prize best", "prize best 1", "prize best 1 alone",
            ONE + "prize", ONE.repeat(7) + "prize best 1",
        };
        for (String text : ahead) {
            bad(text, 2, text.length());
            bad(text + " ", 2, text.length() + 1);
            bad(text + "\n\n ", 2, text.length() + 3);
        }
    }

    // Part 3: "3 a ninth PRIZE (at prize)."

    private static void fault3Ninth() {
        bad(ONE.repeat(8) + "prize", 3, 104);
        bad(ONE.repeat(8) + "\n  prize", 3, 107);
        bad(ONE.repeat(8) + "prize ?", 3, 104);
        bad(ONE.repeat(8) + "prizes", 2, 104);
        bad(ONE.repeat(8) + ";", 2, 104);
        good(ONE.repeat(8) + " \n", 8);
    }

    // Part 3: "4 a NUMBER that is too small or too great."

    private static void fault4TooSmallOrGreat() {
        bad("prize best 0", 4, 11);
        bad("prize best 000;", 4, 11);
        bad("prize best 025;", 4, 11);
        bad("prize seen 00 best 1;", 4, 11);
        bad("prize age 1 field 008 best 1;", 4, 18);
        bad(ONE + "prize best 25;", 4, 24);
    }

    // Part 3: "5 a WISH that was told in this PRIZE (at its WORD)."

    private static void fault5ToldInThisPrize() {
        String[] wish = {"field", "age", "school", "seen"};
        for (String one : wish) {
            String text = "prize " + one + " 1 ";
            bad(text + one + " 1 best 1;", 5, text.length());
            bad(text + one, 5, text.length());
            bad(text + one + " best", 5, text.length());
            bad(text + one + " 999", 5, text.length());
            for (String other : wish) {
                if (!other.equals(one)) {
                    bad(text + other + " 1 " + one + " 1 best 1;", 5, text.length() + other.length() + 3);
                    good(text + other + " 1 best 1;", 1);
                }
            }
            good(text + "best 1;" + text + "best 1;", 2);
        }
        bad("prize field 1 age 1 school 1 seen 1 age 1 best 1;", 5, 36);
    }

    private static void firstAlongTheText() {
        bad("prize best 0 ?", 4, 11);
        bad("prize ? best 0", 1, 6);
        bad("x ?", 2, 0);
        bad("? x", 1, 0);
        bad("prize field 1 field 9 best 0;", 5, 14);
        bad("prize field 9 field 9 best 0;", 4, 12);
        bad("prize best 0;" + ONE.repeat(8), 4, 11);
        bad(ONE.repeat(7) + "prize best 0;" + ONE, 4, 102);
    }

    private static void ofOneTokenTheLeastKind() {
        // A number of four digits that can't stand there and would be too great: 1.
        bad("9999", 1, 0);
        bad("prize best 1 9999", 1, 13);
        bad("prize best 9999", 1, 11);
        // One that can't stand there and would be too great: 2.
        bad("999", 2, 0);
        bad("prize 999", 2, 6);
        bad("prize best 1 999", 2, 13);
        bad("prize field 1 999", 2, 14);
        // A wish told in this prize that can't stand there: 2.
        bad("prize field 1 best 1 field 1;", 2, 21);
        bad("prize field 1 age field 1", 2, 18);
        // A ninth prize where none can stand: 2.
        bad(ONE.repeat(7) + "prize prize", 2, 97);
    }

    // Promise 21: "Of the latest prizes() with STATUS 0 or 7, what 0: the FAULT (0 without one), 1: its place (NONE
    // without). NONE for others, and ahead of any."

    private static void faultAheadOfAny() {
        FairHall x = new FairHall();
        for (int what : new int[] {0, 1, 2, -1, MIN, MAX}) {
            C.due("fault(" + what + ") of a new object", x.fault(what), NONE);
        }
        C.dueNone("a prizes() with status 2", x, x.prizes(1), 2);
        feedBlanks(x);
        C.due("fault(0) behind status 2 and a feed", x.fault(0), NONE);
        C.due("fault(1) behind status 2 and a feed", x.fault(1), NONE);
        x.prizes(0);
        C.due("fault(0) of an empty text", x.fault(0), 0);
        C.due("fault(1) of an empty text", x.fault(1), NONE);
    }

    private static void faultOfTheLatest() {
        FairHall x = new FairHall();
        Check.prizes(x, " ?");
        C.due("a fault", x.fault(0), 1);
        C.due("its place", x.fault(1), 1);
        x.prizes(1);
        x.prizes(MIN);
        x.prizes(MAX);
        x.plan();
        Check.feed(x, "prize best 0;");
        C.due("the fault stays", x.fault(0), 1);
        C.due("its place stays", x.fault(1), 1);
        x.prizes(13);
        C.due("the next fault", x.fault(0), 4);
        C.due("its place", x.fault(1), 11);
        Check.prizes(x, ONE);
        C.due("none", x.fault(0), 0);
        C.due("its place", x.fault(1), NONE);
        x.prizes(21);
        C.due("none, behind status 2", x.fault(0), 0);
        Check.prizes(x, "prize");
        C.due("a fault again", x.fault(0), 2);
        C.due("its place", x.fault(1), 5);
    }

    private static void faultWhat() {
        FairHall x = new FairHall();
        Check.prizes(x, "prize");
        FairHall y = new FairHall();
        Check.prizes(y, ONE);
        IntUnaryOperator none = what -> {
            C.due("fault(" + what + ") without a fault", y.fault(what), NONE);
            return x.fault(what);
        };
        C.refusedOutside("fault what", 0, 1, NONE, none);
    }
}
