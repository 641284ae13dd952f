import java.util.function.Supplier;

/** The boundary cases of promises 5 and 6, sentence by sentence: texts of figures, their faults, figures made. */
public final class EdgeFigureTextTest {
    public static void main(String[] args) {
        oneToSixBalloons();
        betweenBalloonsIsOneSlash();
        theSortIsADigitThatIsThere();
        oneMoveAtLeast();
        lengthsAreFrom1To30();
        lengthsHaveOneDigitOrTwo();
        aThirdDigitIsWrong();
        blanksEndALength();
        namesAreFromAToH();
        blanksMayStandBetween();
        noOtherSignIsABlank();
        sixParenthesesWithinOneAnother();
        parenthesesCloseWhatIsOpen();
        twentyFourBubbles();
        theFirstDigitOfA25thBubbleIsWrong();
        aTextThatEndsTooEarly();
        aTextOf200Bytes();
        theFirstFaultIsTold();
        twelveFigures();
        theTapeIsEmptyThen();
        Checks.close("EdgeFigureTextTest");
    }

    private static Supplier<BalloonStall> with(String text) {
        return () -> {
            BalloonStall x = Checks.withSorts();
            Checks.figure(x, "#1 3");
            Checks.feed(x, text);
            return x;
        };
    }

    private static void wrong(String text, int at) {
        Checks.due("fault of " + text, with(text).get().fault(0), at);
        Twins.none("figure of " + text, with(text), BalloonStall::figure);
    }

    /** The figure 1 of a stall that has one more. */
    private static BalloonStall right(String text, int bubbles, int points) {
        BalloonStall x = with(text).get();
        Checks.due("fault of " + text, x.fault(0), -1);
        Checks.due("figure of " + text, x.figure(), 1);
        Checks.due("bubbles of " + text, x.many(1, 1), bubbles);
        Checks.due("points of " + text, x.many(1, 2), points);
        return x;
    }

    private static void lengths(String text, int... want) {
        BalloonStall x = right(text, want.length, want.length + 1);
        for (int i = 0; i < want.length; i++) {
            Checks.due("length " + i + " of " + text, x.bubble(1, i, 0), want[i]);
        }
    }

    // "BALLOONS with / between, one to six"
    private static void oneToSixBalloons() {
        wrong("", 0);
        String text = "#0a";
        for (int balloons = 1; balloons <= 6; balloons++) {
            BalloonStall x = right(text, 0, 1);
            Checks.due("balloons of " + text, x.many(1, 0), balloons);
            Checks.due("the last balloon's rest", x.rest(1, balloons - 1), 200);
            Checks.due("the rest of one more", x.rest(1, balloons), -1);
            text = text + "/#0a";
        }
        wrong(text, 23);
        wrong("#0 1/#0 1/#0 1/#0 1/#0 1/#0 1/", 29);
        wrong("#0a/#0a/#0a/#0a/#0a/#0a  /", 25);
    }

    private static void betweenBalloonsIsOneSlash() {
        wrong("#0a#0a", 3);
        wrong("/#0a", 0);
        wrong("#0a//#0a", 4);
        wrong("#0a/", 4);
        wrong("#0a/ ", 5);
        wrong("#0/#0a", 2);
    }

    // "# and a SORT that is there (a digit)"
    private static void theSortIsADigitThatIsThere() {
        right("#2a", 0, 1);
        wrong("#3a", 1);
        wrong("#9a", 1);
        wrong("#/a", 1);
        wrong("#:a", 1);
        wrong("#-1", 1);
        wrong("# 3a", 2);
        wrong("##0a", 1);
        wrong("0a", 0);
        wrong("#", 1);
        wrong("#0a/#3a", 5);
        right("#0a/#2a", 0, 1);
    }

    // "MOVES, one at least"
    private static void oneMoveAtLeast() {
        wrong("#0", 2);
        wrong("#0  ", 4);
        wrong("#0/", 2);
        wrong("#0()", 3);
        wrong("#0 1()", 5);
        wrong("#0(())", 4);
        wrong("#0(1())", 5);
        right("#0 1", 1, 2);
        right("#0 a", 0, 1);
        right("#0 (a)", 0, 1);
        right("#0 (1)", 1, 1);
        right("#0((((((a))))))", 0, 1);
    }

    // "its length (1 .. 30, one or two digits)"; "if it is out of bounds, its last digit is wrong"
    private static void lengthsAreFrom1To30() {
        for (int length = 0; length <= 99; length++) {
            String two = "" + (char) ('0' + length / 10) + (char) ('0' + length % 10);
            if (length >= 1 && length <= 30) {
                lengths("#0" + two, length);
            } else {
                wrong("#0" + two, 3);
                wrong("#0" + two + "a", 3);
            }
        }
        lengths("#0 30 30", 30, 30);
        wrong("#0 30 31", 7);
        wrong("#0 31 30", 4);
    }

    // "one or two digits"; "a length is read with one digit or two"
    private static void lengthsHaveOneDigitOrTwo() {
        for (int length = 1; length <= 9; length++) {
            lengths("#0" + length, length);
            lengths("#0 " + length + " 0" + length, length, length);
        }
        wrong("#00", 2);
        wrong("#00a", 2);
        wrong("#00(1)", 2);
        wrong("#00/", 2);
        wrong("#00 5", 2);
        wrong("#0 1 0", 5);
        wrong("#0(0)", 3);
        wrong("#000", 3);
        wrong("#0 00 1", 4);
    }

    // "a third digit .. are wrong, too"
    private static void aThirdDigitIsWrong() {
        wrong("#0 100", 5);
        wrong("#0 101", 5);
        wrong("#0 010", 5);
        wrong("#0 123", 5);
        wrong("#0 300", 5);
        wrong("#0 309", 5);
        wrong("#0 001", 4);
        wrong("#0 310", 4);
        wrong("#0 1234", 5);
        wrong("#0 1 2 123", 9);
        wrong("#0111", 4);
    }

    // "Blanks .. not within lengths"
    private static void blanksEndALength() {
        lengths("#0 1 2", 1, 2);
        lengths("#0 3 1", 3, 1);
        lengths("#0 12 3", 12, 3);
        lengths("#0 1 23", 1, 23);
        lengths("#0 9  9", 9, 9);
        wrong("#0 3 0", 5);
        wrong("#0 0 3", 3);
    }

    // "a NAME (a .. h)"
    private static void namesAreFromAToH() {
        for (char name = 'a'; name <= 'h'; name++) {
            right("#0 " + name, 0, 1);
            right("#0 " + name + "1" + name, 1, 1);
        }
        right("#0 a1b1c1d1e1f1g1h/#0 h1g1f1e1d1c1b1a", 14, 8);
        for (char other : new char[] {'`', 'i', 'j', 'z', 'A', 'H', '@', '{', (char) ('a' + 128)}) {
            wrong("#0 " + other, 3);
            wrong("#0 1" + other, 4);
        }
    }

    // "Blanks (32) may stand between all these"
    private static void blanksMayStandBetween() {
        String[] parts = {"#", "0", "12", "a", "(", "3", "b", ")", "/", "#", "2", "(", "4", ")", "h"};
        for (int gap = 0; gap <= parts.length; gap++) {
            StringBuilder text = new StringBuilder();
            for (int i = 0; i < parts.length; i++) {
                text.append(i == gap ? "  " : "").append(parts[i]);
            }
            BalloonStall x = right(text + (gap == parts.length ? " " : ""), 3, 3);
            Checks.due("length 0", x.bubble(1, 0, 0), 12);
            Checks.due("length 2", x.bubble(1, 2, 0), 4);
            Checks.due("sort 2", x.bubble(1, 2, 4), 2);
        }
    }

    private static void noOtherSignIsABlank() {
        for (int sign : new int[] {1, 9, 10, 13, 31, 33, 127, 128, 160, 255}) {
            wrong((char) sign + "#0a", 0);
            wrong("#" + (char) sign + "0a", 1);
            wrong("#0" + (char) sign + "a", 2);
            wrong("#0a" + (char) sign, 3);
            wrong("#0 1" + (char) sign + "1", 4);
            wrong("#0a/" + (char) sign + "#0a", 4);
        }
    }

    // "At most six ( within one another"; "a seventh ( .. wrong, too"
    private static void sixParenthesesWithinOneAnother() {
        right("#0((((((1))))))", 1, 1);
        wrong("#0(((((((1)))))))", 8);
        right("#0(1(2(3(4(5(6))))))", 6, 1);
        wrong("#0(1(2(3(4(5(6(7", 14);
        right("#0((((((1)(1)))(1))))(((((1)))))", 4, 1);
        wrong("#0((((((1)(1)))((((", 18);
        right("#0(1)(1)(1)(1)(1)(1)(1)(1)", 8, 1);
        right("#0((((((1))))))/#0((((((1))))))", 2, 2);
        wrong("#0((((((1))))))/#0(((((((1", 24);
    }

    private static void parenthesesCloseWhatIsOpen() {
        wrong("#0)", 2);
        wrong("#0 1)", 4);
        wrong("#0(1))", 5);
        wrong("#0((1)", 6);
        wrong("#0(1/#0 1)", 4);
        wrong("#0((1)/", 6);
        wrong("#0(a)/#0 a)", 10);
        wrong("#0((((((1)))))))", 15);
    }

    private static String bubbles(int many) {
        return "#0" + " 1".repeat(many);
    }

    // "24 BUBBLES"
    private static void twentyFourBubbles() {
        right(bubbles(23), 23, 24);
        BalloonStall x = right(bubbles(24), 24, 25);
        Checks.due("the last length", x.bubble(1, 23, 0), 1);
        Checks.due("the last point", x.bubble(1, 23, 2), 24);
        Checks.dueNoSuch("a 25th bubble", () -> x.bubble(1, 24, 0));
        right(bubbles(24) + " a(b)/#1 c", 24, 26);
        String six = "#0 1 1 1 1/#1 1 1 1 1/#2 1 1 1 1/#0 1 1 1 1/#1 1 1 1 1/#2 1 1 1 1";
        BalloonStall y = right(six, 24, 30);
        Checks.due("the 30th point", y.bubble(1, 23, 2), 29);
        Checks.due("ends of the 30th point", y.ends(1, 29), 1);
        Checks.due("the sort of the last bubble", y.bubble(1, 23, 4), 2);
        right("#0" + " 30".repeat(24), 24, 25);
    }

    // "the first digit of a 25th BUBBLE are wrong"
    private static void theFirstDigitOfA25thBubbleIsWrong() {
        wrong(bubbles(25), 51);
        wrong(bubbles(24) + " 12", 51);
        wrong(bubbles(24) + " 31", 51);
        wrong(bubbles(24) + " 0", 51);
        wrong(bubbles(24) + "  99", 52);
        wrong(bubbles(24) + "a(1", 52);
        wrong(bubbles(24) + "/#1 1", 54);
        wrong(bubbles(23) + " 30 1", 52);
        wrong(bubbles(23) + " 300", 51);
        wrong(bubbles(23) + " 31", 50);
        wrong(bubbles(24) + "x", 50);
        wrong(bubbles(24) + "/", 51);
    }

    // "(the length, if it ends too early)"
    private static void aTextThatEndsTooEarly() {
        String text = "#0 12(3 a)/#1(4)";
        for (int end = 0; end < text.length(); end++) {
            boolean whole = end == 4 || end == 5 || end == 10;
            if (!whole) {
                wrong(text.substring(0, end), end);
            }
        }
        right("#0 1", 1, 2);
        right("#0 12", 1, 2);
        right("#0 12(3 a)", 2, 2);
        right(text, 3, 3);
        wrong(" ".repeat(200), 200);
        wrong(" ", 1);
    }

    private static void aTextOf200Bytes() {
        right("#0" + " ".repeat(197) + "1", 1, 2);
        right("#0 1" + " ".repeat(196), 1, 2);
        wrong("#0" + " ".repeat(198), 200);
        wrong("#0(1" + " ".repeat(196), 200);
        wrong("#0 1" + " ".repeat(195) + "0", 199);
        right("#0" + "a".repeat(198), 0, 1);
        StringBuilder text = new StringBuilder("#0");
        while (text.length() < 197) {
            text.append("(a)");
        }
        right(text + "1  ", 1, 2);
    }

    // "FAULT: the first byte at which no FIGURE can go on"
    private static void theFirstFaultIsTold() {
        wrong("x#0)31", 0);
        wrong("#0)31x", 2);
        wrong("#0 31)x", 4);
        wrong("#0(31)x", 4);
        wrong("#0 1;2/7", 4);
        wrong("#0 1 -2", 5);
        wrong("#0 1,2", 4);
    }

    private static BalloonStall withFigures(int many) {
        BalloonStall x = Checks.withSorts();
        for (int i = 0; i < many; i++) {
            Checks.figure(x, "#0 " + (i + 1) + " 2");
        }
        return x;
    }

    // "FIGURES (12 at most)"; "NONE (the TAPE stays): a FAULT, there are twelve."
    private static void twelveFigures() {
        Checks.due("figure 11", Checks.figure(withFigures(11), "#0 5"), 11);
        Supplier<BalloonStall> full = () -> {
            BalloonStall x = withFigures(12);
            Checks.feed(x, "#1 5");
            return x;
        };
        Twins.none("a thirteenth figure", full, BalloonStall::figure);
        BalloonStall x = full.get();
        Checks.due("a thirteenth figure", x.figure(), -1);
        Checks.due("the tape stays", x.count(3), 4);
        Checks.due("without a fault", x.fault(0), -1);
        Checks.due("figures", x.count(1), 12);
        Checks.due("a thirteenth is not there", x.many(12, 0), -1);
        for (int i = 0; i < 12; i++) {
            Checks.due("the length of figure " + i, x.bubble(i, 0, 0), i + 1);
        }
        x.end(0);
        Checks.due("a faulty thirteenth", Checks.figure(x, "#0 31"), -1);
        Checks.due("its tape stays", x.count(3), 5);
    }

    // "The TAPE (empty then) is a FIGURE: its number."
    private static void theTapeIsEmptyThen() {
        BalloonStall x = with("#0 1 a").get();
        Checks.due("figure", x.figure(), 1);
        Checks.due("bytes behind it", x.count(3), 0);
        Checks.due("fault behind it", x.fault(0), 0);
        Checks.due("figure again", x.figure(), -1);
        Checks.due("names are of one text", Checks.figure(x, "#0 2 a 3"), 2);
        Checks.due("points of the second text", x.many(2, 2), 3);
        Checks.due("points of the first text", x.many(1, 2), 2);
        Checks.due("a refused text", Checks.figure(x, "#0 1 a(b"), -1);
        Checks.due("its names are forgotten", Checks.figure(x, "#0 b 2 a 3"), 3);
        Checks.due("points of the third text", x.many(3, 2), 3);
    }
}
