import java.util.function.Supplier;

/** The boundary cases of promises 23 to 26, sentence by sentence: strokes, figures made, their sets, made twice. */
public final class EdgeMadeTest {
    private static final int MOST = Integer.MAX_VALUE;
    private static final int LEAST = Integer.MIN_VALUE;

    public static void main(String[] args) {
        noSuchOnes();
        strokesByOddPoints();
        strokesOfParts();
        ofTenBubblesAtMost();
        noneOfWhichBursts();
        strainIsForTheirTwists();
        itCanNotBe();
        madeOfNoBubbles();
        eachBalloonOneWay();
        fewestComeFirst();
        setsComeByTheirLowestBubbles();
        theFirstSetIsTheLowestNumber();
        thenTheSecondSet();
        theSetBehindTheLast();
        eachSortAndFigureForItself();
        twelveBubblesAtMost();
        allOnePart();
        zeroIfNoneNeedBe();
        theLeastLengthMadeTwice();
        Checks.close("EdgeMadeTest");
    }

    private static Supplier<BalloonStall> with(String... texts) {
        return () -> {
            BalloonStall x = Checks.withSorts();
            for (String text : texts) {
                Checks.due("fault of " + text, Checks.fault(x, 0, text), -1);
                x.figure();
            }
            return x;
        };
    }

    // "NONE: .. no such ones."
    private static void noSuchOnes() {
        for (int wrong : new int[] {LEAST, -1, 3, 12, MOST}) {
            Twins.none("strokes(" + wrong + ")", Twins::busy, x -> x.strokes(wrong));
            Twins.none("twice(" + wrong + ")", Twins::busy, x -> x.twice(wrong));
            Twins.none("made(" + wrong + ", 0)", Twins::busy, x -> x.made(wrong, 0));
            Twins.none("made(0, " + wrong + ")", Twins::busy, x -> x.made(0, wrong));
            Twins.none("set(" + wrong + ", 0, 0)", Twins::busy, x -> x.set(wrong, 0, 0));
            Twins.none("set(0, " + wrong + ", 0)", Twins::busy, x -> x.set(0, wrong, 0));
            Twins.none("set(0, 1, " + wrong + ")", Twins::busy, x -> x.set(0, 1, wrong));
        }
        Checks.due("made(0, 2), the last sort", Twins.busy().made(0, 2), 4);
        Checks.due("made(2, 0), the last figure", Twins.busy().made(2, 0), 0);
    }

    private static void strokes(String text, int want) {
        Checks.due("strokes of " + text, with(text).get().strokes(0), want);
    }

    // "ODD are POINTS with an odd number of ENDS. STROKES: the fewest BALLOONS, without end each"
    private static void strokesByOddPoints() {
        strokes("#0 a", 0);
        strokes("#0(1)", 1);
        strokes("#0 1", 1);
        strokes("#0 a 1/#0 a 1", 1);
        strokes("#0 a 1/#0 a 1/#0 a 1", 2);
        strokes("#0 a 1/#0 a 1/#0 a 1/#0 a 1", 2);
        strokes("#0 a 1/#0 a 1/#0 a 1/#0 a 1/#0 a 1", 3);
        strokes("#0 a 1/#0 a 1/#0 a 1/#0 a 1/#0 a 1/#0 a 1", 3);
        strokes("#0 a 1/#0 a 1/#0 a 1/#0 a(1)", 2);
        strokes("#0" + " 30".repeat(24), 1);
    }

    private static void strokesOfParts() {
        strokes("#0 1/#0 1", 2);
        strokes("#0(1)/#0(1)", 2);
        strokes("#0(1)/#0 1", 2);
        strokes("#0 1/#0 a/#0 b", 1);
        strokes("#0 1/#0 1/#0 1/#0(1)/#0(1)/#0(1)", 6);
        strokes("#0 1/#0 a 1/#0 a 1/#0 a 1", 3);
        strokes("#0 a 1 b/#0 1 a/#0 a 1 b", 1);
        strokes("#0 1 1 1 1/#0 1 1 1 1/#0 1 1 1 1/#0 1 1 1 1/#0 1 1 1 1/#0 1 1 1 1", 6);
    }

    private static void made(BalloonStall x, int figure, int sort, int... sets) {
        String call = "(" + figure + ", " + sort + ")";
        Checks.due("made" + call, x.made(figure, sort), sets.length);
        for (int i = 0; i < sets.length; i++) {
            Checks.due("set" + i + call, x.set(figure, sort, i), sets[i]);
        }
        Checks.due("the set behind the last of " + call, x.set(figure, sort, sets.length), -1);
        Checks.due("made" + call + " again", x.made(figure, sort), sets.length);
    }

    private static void made(String text, int sort, int... sets) {
        made(with(text).get(), 0, sort, sets);
    }

    private static void canNot(String text, int sort) {
        Twins.none("made of " + text, with(text), x -> x.made(0, sort));
        for (int i : new int[] {-1, 0, 1, 9, 10}) {
            Twins.none("set " + i + " of " + text, with(text), x -> x.set(0, sort, i));
        }
    }

    // "(of FIGURES with 10 BUBBLES at most)"
    private static void ofTenBubblesAtMost() {
        made("#0" + " 1".repeat(9), 0, 511);
        made("#0" + " 1".repeat(10), 0, 1023);
        canNot("#0" + " 1".repeat(11), 0);
        canNot("#0" + " 1".repeat(24), 0);
        made("#0" + " 5".repeat(10), 2, 1, 2, 4, 8, 16, 32, 64, 128, 256, 512);
        canNot("#0" + " 5".repeat(11), 2);
        made("#0" + "(1)".repeat(10), 0, 1023);
        BalloonStall x = with("#0" + " 1".repeat(11), "#0 1 1 1 1 1", "#0 1 1 1 1 1 1").get();
        x.plain(0);
        made(x, 3, 0, 1);
        x.add(1, 1, 0, 5);
        made(x, 4, 0, 1023);
        x.add(1, 2, 0, 0);
        Checks.due("made of 11 added", x.made(5, 0), -1);
    }

    // "none of which BURSTS"
    private static void noneOfWhichBursts() {
        made("#0 5", 2, 1);
        canNot("#0 6", 2);
        made("#0 20", 1, 1);
        canNot("#0 21", 1);
        made("#0 30 30 30 30 30 30 20", 0, 127);
        made("#0 30 30 30 30 30 30 21", 0, 1, 126);
        BalloonStall x = new BalloonStall();
        x.sort(6, 0, 0);
        Checks.figure(x, "#0 2 2 2");
        Checks.figure(x, "#0 2 2 3");
        made(x, 0, 0, 7);
        made(x, 1, 0, 1, 6);
    }

    // A BALLOON needs STRAIN "for each of its TWISTS", whatever twists the figure has.
    private static void strainIsForTheirTwists() {
        made("#0 8 9", 1, 3);
        made("#0 8 10", 1, 1, 2);
        made("#0 8 a/#0 a 9", 1, 3);
        made("#0 8 a/#0 a 10", 1, 1, 2);
        made("#0 4 5 5", 1, 7);
        made("#0 5 5 5", 1, 1, 6);
        made("#0(1)(1)(1)(1)(1)", 1, 31);
        made("#0(1)(1)(1)(1)(1)(1)", 1, 1, 62);
    }

    // "NONE: it can not be"
    private static void itCanNotBe() {
        canNot("#0 1 6 1", 2);
        canNot("#0 5/#0 5/#0 6", 2);
        canNot("#0 30", 1);
        made("#0 30", 0, 1);
        BalloonStall x = with("#0" + " 30".repeat(7)).get();
        x.plain(0);
        Checks.due("made of a bubble of 210", x.made(1, 0), -1);
        made(x, 0, 0, 1, 126);
    }

    private static void madeOfNoBubbles() {
        made("#0 a", 0);
        made("#0 a/#1 b/#2 c", 2);
        Twins.none("set of none", with("#0 a"), x -> x.set(0, 0, 0));
    }

    // "each BUBBLE made once, each BALLOON one way along its BUBBLES"
    private static void eachBalloonOneWay() {
        made("#0 1/#0 1", 0, 1, 2);
        made("#0 a 1/#0 a 1", 0, 3);
        made("#0 a 1/#0 a 1/#0 a 1", 0, 1, 6);
        made("#0(1)/#0(1)", 0, 1, 2);
        made("#0 a 1 b 1 a/#0 a 1 b 1 a", 0, 15);
        made("#0 a 1 b/#0 a 1 b/#0 a 1 b", 0, 7);
        made("#0 a 1 b 1 c 1 d 1 a 1 c/#0 b 1 d", 0, 1, 62);
        made("#0 1 a(1)1/#0 a(1)", 0, 15);
        made("#0 a 1 1 a/#0 b 1 1 b", 0, 3, 12);
        made("#0 a 1 b/#0 a 1 b/#0 a 1 c/#0 a 1 c", 0, 15);
        made("#0 a 1 b/#0 a 1 c/#0 a 1 b/#0 a 1 c/#0 a 1 d/#0 a 1 d", 0, 63);
        made("#0 a(1)/#0 a 1/#0 a(1)/#0 a 1/#0 a(1)", 0, 31);
        made("#0 a 1 b/#0 c(1)/#0 a 1 c/#0 a(1)", 0, 15);
    }

    // "the fewest BALLOONS of that SORT"
    private static void fewestComeFirst() {
        BalloonStall x = new BalloonStall();
        x.sort(10, 0, 0);
        Checks.figure(x, "#0 5 5 5 5");
        Checks.figure(x, "#0 4 4 4 4 4 4");
        Checks.figure(x, "#0 9 1 1 9");
        Checks.figure(x, "#0 1 9 9 1");
        made(x, 0, 0, 3, 12);
        made(x, 1, 0, 3, 12, 48);
        made(x, 2, 0, 3, 12);
        made(x, 3, 0, 3, 12);
        Checks.figure(x, "#0 a 4/#0 a 6/#0 a 9/#0 a 1");
        Checks.figure(x, "#0 a 1/#0 a 9/#0 a 6/#0 a 4");
        made(x, 4, 0, 3, 12);
        made(x, 5, 0, 3, 12);
    }

    // "SETS of BUBBLES told by their lowest ones"
    private static void setsComeByTheirLowestBubbles() {
        BalloonStall x = new BalloonStall();
        x.sort(10, 0, 0);
        Checks.figure(x, "#0 a 5/#0 a 9/#0 a 5");
        Checks.figure(x, "#0 a 5/#0 b 5/#0 b 5/#0 a 5");
        Checks.figure(x, "#0 a 5/#0 b 10/#0 b 10/#0 a 5");
        Checks.figure(x, "#0 a 5/#0 b 5/#0 c 5/#0 c 5/#0 b 5/#0 a 5");
        made(x, 0, 0, 5, 2);
        made(x, 1, 0, 9, 6);
        made(x, 2, 0, 9, 2, 4);
        made(x, 3, 0, 33, 18, 12);
    }

    // "of several ways that whose first SET as bits is the lowest number"
    private static void theFirstSetIsTheLowestNumber() {
        made("#0 a 5/#0 a 5/#0 a 5/#0 a 5/#0 a 5", 0, 1, 6, 24);
        made("#0 a 5/#0 a 5/#0 a 5/#0 a 5", 0, 3, 12);
        BalloonStall x = new BalloonStall();
        x.sort(9, 0, 0);
        Checks.figure(x, "#0 3 3 3 3 3");
        Checks.figure(x, "#0 a 3 b/#0 b 3/#0 a 3/#0 b 3/#0 b 3");
        made(x, 0, 0, 3, 28);
        made(x, 1, 0, 7, 24);
    }

    // "then the second, .."
    private static void thenTheSecondSet() {
        BalloonStall x = new BalloonStall();
        x.sort(10, 0, 0);
        Checks.figure(x, "#0 10/#0 5 5 5");
        Checks.figure(x, "#0 10/#0 a 5/#0 a 5/#0 a 5");
        Checks.figure(x, "#0 5 5 5/#0 10");
        Checks.figure(x, "#0 5 5/#0 5 5 5");
        made(x, 0, 0, 1, 2, 12);
        made(x, 1, 0, 1, 2, 12);
        made(x, 2, 0, 1, 6, 8);
        made(x, 3, 0, 3, 4, 24);
    }

    // "The i-th SET of BUBBLES of these, as bits. NONE: none, likewise."
    private static void theSetBehindTheLast() {
        for (int i : new int[] {LEAST, -1, 2, 9, 10, MOST}) {
            Twins.none("set " + i + " of two", with("#0 1/#0 1"), x -> x.set(0, 0, i));
        }
        Checks.due("the first of two", with("#0 1/#0 1").get().set(0, 0, 0), 1);
        Checks.due("the second of two", with("#0 1/#0 1").get().set(0, 0, 1), 2);
    }

    private static void eachSortAndFigureForItself() {
        BalloonStall x = with("#0 5 5", "#0 5", "#0 9 9 9").get();
        for (int again = 0; again < 2; again++) {
            made(x, 0, 0, 3);
            made(x, 0, 1, 3);
            made(x, 0, 2, 1, 2);
            made(x, 1, 2, 1);
            made(x, 2, 1, 1, 2, 4);
            made(x, 2, 0, 7);
            Checks.due("made(2, 2)", x.made(2, 2), -1);
        }
        Checks.due("a sort that comes later", x.made(2, 3), -1);
        x.sort(21, 3, 0);
        made(x, 2, 3, 1, 6);
        Checks.due("a figure that comes later", x.made(3, 3), -1);
        Checks.figure(x, "#0 21");
        made(x, 3, 3, 1);
        Checks.figure(x, "#0 1 1 1 1");
        Checks.figure(x, "#0 1/#0 1/#0 1/#0 1");
        Checks.figure(x, "#0(1)/#0(1)/#0(1)");
        for (int again = 0; again < 2; again++) {
            made(x, 4, again, 15);
            made(x, 6, again, 1, 2, 4);
            made(x, 5, again, 1, 2, 4, 8);
        }
    }

    private static void twice(String text, int want) {
        Checks.due("twice of " + text, with(text).get().twice(0), want);
    }

    // "(12 BUBBLES at most"
    private static void twelveBubblesAtMost() {
        twice("#0" + " 1".repeat(12), 0);
        twice("#0 5 a" + " 1".repeat(10) + "/#0 a 3", 3);
        twice("#0 5 a" + " 1".repeat(9) + "/#0 a 3", 3);
        Twins.none("twice of 13", with("#0" + " 1".repeat(13)), x -> x.twice(0));
        Twins.none("twice of 13", with("#0 5 a" + " 1".repeat(11) + "/#0 a 3"), x -> x.twice(0));
        Twins.none("twice of 24", with("#0" + " 1".repeat(24)), x -> x.twice(0));
        BalloonStall x = with("#0" + " 1".repeat(13)).get();
        x.plain(0);
        Checks.due("twice of its plain", x.twice(1), 0);
    }

    // "all one part)"
    private static void allOnePart() {
        Twins.none("twice of two parts", with("#0 1/#0 1"), x -> x.twice(0));
        Twins.none("twice of two rings", with("#0(1)/#0(1)"), x -> x.twice(0));
        Twins.none("twice of two parts, one below the other", with("#0 a 1/#0 b 1/#0 a 1"), x -> x.twice(0));
        twice("#0 1 a/#0 1 a", 0);
        twice("#0 a 1/#0 b 1/#0 a 1 b", 0);
    }

    // "(0, if none need be)"
    private static void zeroIfNoneNeedBe() {
        twice("#0 a", 0);
        twice("#0 30", 0);
        twice("#0(30)", 0);
        twice("#0 5(3 3)4", 0);
        twice("#0 a 7/#0 a 7", 0);
        twice("#0 a 7/#0 a 7/#0 a(7)", 0);
    }

    // "the least length of BUBBLES made twice .. wherever it ends"
    private static void theLeastLengthMadeTwice() {
        twice("#0 a 7/#0 a 5/#0 a 9", 5);
        twice("#0 a 5/#0 a 7/#0 a 9", 5);
        twice("#0 a 9/#0 a 7/#0 a 5", 5);
        BalloonStall x = with("#0 c 1 d/#0 c 1 d/#0 c 1 d/#0 c 1 d", "#0 a 5/#0 a 7/#0 a 9").get();
        Checks.due("twice behind a figure of more bubbles", x.twice(1), 5);
        BalloonStall y = with("#0 1 a 1 b 1 1 1/#0 a 1 b", "#0 a 5/#0 a 5/#0 a 5/#0 a 5/#0 a 5").get();
        Checks.due("twice behind a figure of one bubble more", y.twice(1), 15);
        twice("#0 a 7/#0 a 5/#0 a 9/#0 a 8", 12);
        twice("#0 a 1/#0 a 2/#0 a 3/#0 a 4/#0 a 5", 6);
        twice("#0 a 1/#0 a 2/#0 a 3/#0 a 4/#0 a 5/#0 a 6", 10);
        twice("#0 a 9 b 9 c 9 d 9 a 1 c/#0 b 3 d", 1);
        twice("#0 a 9 b 9 c 9 d 9 a 30 c/#0 b 30 d", 9);
        twice("#0 a 9 b 9 c 9 d 9 a 30 c/#0 b 8 d", 8);
        twice("#0 1 a/#0 1 a/#0 a 1 b/#0 b 1/#0 b 1", 2);
        twice("#0 9 a/#0 9 a/#0 a 1 b/#0 b 9/#0 b 9", 18);
        twice("#0 9 a/#0 9 a/#0 a 2 2 b/#0 b 9/#0 b 9", 18);
        twice("#0 30 a/#0 30 a/#0 a 1 1 1 b/#0 b 30/#0 b 2", 32);
        twice("#0 9 a 1 1 1 b 9/#0 a 9 b", 3);
        twice("#0 9 a 1 1 1 b 9/#0 a 2 b", 2);
    }
}
