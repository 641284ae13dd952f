import java.util.Arrays;
import java.util.function.Supplier;

/** The boundary cases of promises 8 to 15, sentence by sentence: what figures are, bursts, hands, twists, plain ones. */
public final class EdgeFigureTest {
    private static final int MOST = Integer.MAX_VALUE;
    private static final int LEAST = Integer.MIN_VALUE;

    public static void main(String[] args) {
        noSuchFigure();
        manySixKinds();
        noSuchBubble();
        noSuchPoint();
        noSuchBalloon();
        aFigureWithoutBubbles();
        aBalloonBeginsAtANewPoint();
        aNameJoins();
        parenthesesJoin();
        pointsAreNumberedAsTheyFirstCome();
        aLoopHasTwoEnds();
        aTwistIsWithinABalloon();
        itBurstsIfItNeedsMoreThanItsAir();
        itBurstsAtTheFirstBubble();
        strainIsForTwists();
        restIs0AtLeast();
        handsHoldTwistsWithLessThanThreeEnds();
        handsCountTheTwistOfTheNewBubble();
        handsKnowJoinsToldAhead();
        handsOfPlainAndAddedOnes();
        aTwistHoldsWithThreeEnds();
        theLastOfItsBalloonHasNoTwist();
        plainTurnsEachSlackTwistBack();
        plainKeepsWhatHolds();
        plainNumbersAnew();
        plainIsTheTwelfthFigure();
        Checks.close("EdgeFigureTest");
    }

    private static Supplier<BalloonStall> with(String... texts) {
        return () -> {
            BalloonStall x = Checks.withSorts();
            for (String text : texts) {
                Checks.due("fault of " + text, Checks.fault(x, 0, text), -1);
                x.figure();
            }
            return x;
        };
    }

    private static void row(BalloonStall x, int figure, int what, int... want) {
        for (int i = 0; i < want.length; i++) {
            Checks.due("bubble(" + figure + ", " + i + ", " + what + ")", x.bubble(figure, i, what), want[i]);
        }
        Checks.due("bubbles of " + figure, x.many(figure, 1), want.length);
    }

    private static void many(String text, int... want) {
        BalloonStall x = with(text).get();
        for (int what = 0; what < 6; what++) {
            Checks.due("many " + what + " of " + text, x.many(0, what), want[what]);
        }
    }

    // "NONE: no such ones."
    private static void noSuchFigure() {
        for (int f : new int[] {LEAST, -1, 3, 11, 12, MOST}) {
            for (int what = 0; what < 6; what++) {
                int which = what;
                Twins.none("many(" + f + ", " + what + ")", Twins::busy, x -> x.many(f, which));
            }
            Twins.noSuch("bubble(" + f + ", 0, 0)", Twins::busy, x -> x.bubble(f, 0, 0));
            Twins.none("ends(" + f + ", 0)", Twins::busy, x -> x.ends(f, 0));
            Twins.none("bursts(" + f + ", 0)", Twins::busy, x -> x.bursts(f, 0));
            Twins.none("rest(" + f + ", 0)", Twins::busy, x -> x.rest(f, 0));
            Twins.none("hands(" + f + ")", Twins::busy, x -> x.hands(f));
            Twins.none("holds(" + f + ", 0)", Twins::busy, x -> x.holds(f, 0));
            Twins.none("plain(" + f + ")", Twins::busy, x -> x.plain(f));
        }
        BalloonStall x = new BalloonStall();
        Checks.due("many(0, 0) without figures", x.many(0, 0), -1);
        Checks.due("hands(0) without figures", x.hands(0), -1);
        Checks.due("plain(0) without figures", x.plain(0), -1);
    }

    // "0 BALLOONS, 1 BUBBLES, 2 POINTS, 3 TWISTS, 4 SLACK ones, 5 ODD POINTS"
    private static void manySixKinds() {
        for (int what : new int[] {LEAST, -1, 6, 7, MOST}) {
            Twins.none("many(0, " + what + ")", Twins::busy, x -> x.many(0, what));
        }
        many("#0 1 2 a 3/#1 a 4/#2 b", 3, 4, 6, 2, 1, 4);
        many("#0 1 a 1/#0 a 1 1/#0 c", 3, 4, 6, 2, 1, 4);
        many("#0(1)", 1, 1, 1, 0, 0, 0);
        many("#0(1)1", 1, 2, 2, 1, 0, 2);
    }

    // "NoSuchElementException: no such ones."
    private static void noSuchBubble() {
        for (int i : new int[] {LEAST, -1, 4, 5, 24, MOST}) {
            Twins.noSuch("bubble(0, " + i + ", 0)", Twins::busy, x -> x.bubble(0, i, 0));
            Twins.none("holds(0, " + i + ")", Twins::busy, x -> x.holds(0, i));
        }
        for (int what : new int[] {LEAST, -1, 5, 6, MOST}) {
            Twins.noSuch("bubble(0, 0, " + what + ")", Twins::busy, x -> x.bubble(0, 0, what));
        }
        Twins.noSuch("bubble(2, 0, 0) of a figure without any", Twins::busy, x -> x.bubble(2, 0, 0));
        BalloonStall x = with("#1 5(3 3)4/#2 30").get();
        row(x, 0, 0, 5, 3, 3, 4, 30);
        row(x, 0, 1, 0, 1, 2, 1, 4);
        row(x, 0, 2, 1, 2, 1, 3, 5);
        row(x, 0, 3, 0, 0, 0, 0, 1);
        row(x, 0, 4, 1, 1, 1, 1, 2);
    }

    private static void noSuchPoint() {
        for (int p : new int[] {LEAST, -1, 4, 30, MOST}) {
            Twins.none("ends(0, " + p + ")", Twins::busy, x -> x.ends(0, p));
        }
        Checks.due("ends of the first point", Twins.busy().ends(0, 0), 1);
        Checks.due("ends of the last point", Twins.busy().ends(0, 3), 1);
        Checks.due("ends of a point without", Twins.busy().ends(2, 0), 0);
        Checks.due("ends(2, 1)", Twins.busy().ends(2, 1), -1);
    }

    private static void noSuchBalloon() {
        for (int b : new int[] {LEAST, -1, 2, 6, MOST}) {
            Twins.none("bursts(1, " + b + ")", Twins::busy, x -> x.bursts(1, b));
            Twins.none("rest(1, " + b + ")", Twins::busy, x -> x.rest(1, b));
        }
        Checks.due("rest(1, 0)", Twins.busy().rest(1, 0), 10);
        Checks.due("rest(1, 1)", Twins.busy().rest(1, 1), 2);
    }

    private static void aFigureWithoutBubbles() {
        many("#0 a", 1, 0, 1, 0, 0, 0);
        many("#0 a/#1 b", 2, 0, 2, 0, 0, 0);
        many("#0 a/#1 a", 2, 0, 1, 0, 0, 0);
        BalloonStall x = with("#2 a").get();
        Checks.due("bursts", x.bursts(0, 0), -1);
        Checks.due("rest", x.rest(0, 0), 5);
        Checks.due("hands", x.hands(0), 0);
        Checks.due("plain", x.plain(0), 1);
        Checks.due("points of plain", x.many(1, 2), 1);
        Checks.due("balloons of plain", x.many(1, 0), 1);
        Checks.due("rest of plain", x.rest(1, 0), 5);
    }

    // "A BALLOON begins at a new POINT; each BUBBLE goes from the POINT where one is to a new one."
    private static void aBalloonBeginsAtANewPoint() {
        BalloonStall x = with("#0 1 1/#0 1/#0 1 1").get();
        row(x, 0, 1, 0, 1, 3, 5, 6);
        row(x, 0, 2, 1, 2, 4, 6, 7);
        Checks.due("points", x.many(0, 2), 8);
    }

    // "named before (in this TEXT), both POINTS are JOINED"
    private static void aNameJoins() {
        BalloonStall x = with("#0 1 a", "#0 1 a 1 a", "#0 a a a 1", "#0 a b 1 a c 1 b", "#0 1 a 1 b 1/#1 a b").get();
        Checks.due("named once", x.many(0, 2), 2);
        row(x, 1, 1, 0, 1);
        row(x, 1, 2, 1, 1);
        Checks.due("named where one is", x.many(2, 2), 2);
        row(x, 3, 1, 0, 0);
        row(x, 3, 2, 0, 0);
        Checks.due("all joined through other names", x.many(3, 2), 1);
        Checks.due("a balloon without bubbles joins", x.many(4, 2), 3);
        row(x, 4, 1, 0, 1, 1);
        row(x, 4, 2, 1, 1, 2);
    }

    // "At ) the POINT where one is is JOINED with that where its ( stood."
    private static void parenthesesJoin() {
        BalloonStall x = with("#0 1(1 1)1", "#0(1(1)1)", "#0 1 a(1)(a)", "#0(a 1 b 1)", "#0 1(1 a)1(1 a)").get();
        row(x, 0, 1, 0, 1, 2, 1);
        row(x, 0, 2, 1, 2, 1, 3);
        row(x, 1, 1, 0, 1, 1);
        row(x, 1, 2, 1, 1, 0);
        row(x, 2, 1, 0, 1);
        row(x, 2, 2, 1, 1);
        row(x, 3, 1, 0, 1);
        row(x, 3, 2, 1, 0);
        row(x, 4, 1, 0, 1, 1, 1);
        row(x, 4, 2, 1, 1, 1, 1);
        BalloonStall y = with("#0 b 1 a(2 a b 3)4").get();
        row(y, 0, 1, 0, 0, 0, 0);
        row(y, 0, 2, 0, 0, 0, 1);
        Checks.due("points, where the ( stood being joined meanwhile", y.many(0, 2), 2);
        Checks.due("ends where all meet", y.ends(0, 0), 7);
    }

    // "POINTS, as they are JOINED in the end, as they first come"
    private static void pointsAreNumberedAsTheyFirstCome() {
        BalloonStall x = with("#0 1 1 1/#0 b 1 a 1/#1 a 1 b 1").get();
        row(x, 0, 1, 0, 1, 2, 4, 5, 5, 4);
        row(x, 0, 2, 1, 2, 3, 5, 6, 4, 7);
        BalloonStall y = with("#0 1 a/#0 2 b/#0 3 a b/#0 4").get();
        row(y, 0, 1, 0, 2, 3, 4);
        row(y, 0, 2, 1, 1, 1, 5);
        Checks.due("ends where all meet", y.ends(0, 1), 3);
        BalloonStall z = with("#0 a/#0 a 1", "#0 a/#0 b/#0 1 c b a").get();
        row(z, 0, 1, 0);
        row(z, 0, 2, 1);
        row(z, 1, 1, 1);
        row(z, 1, 2, 0);
    }

    // "(a BUBBLE from a POINT to itself has two)"
    private static void aLoopHasTwoEnds() {
        BalloonStall x = with("#0(1)", "#0 1(1)", "#0 1 1", "#0 a 1/#0 a 1/#0 a(1)").get();
        Checks.due("a loop alone", x.ends(0, 0), 2);
        Checks.due("a loop behind a bubble", x.ends(1, 1), 3);
        Checks.due("a bubble's begin", x.ends(1, 0), 1);
        Checks.due("between two bubbles", x.ends(2, 1), 2);
        Checks.due("a loop and two bubbles", x.ends(3, 0), 4);
    }

    // "A TWIST is where a BUBBLE of a BALLOON is followed by the next one."
    private static void aTwistIsWithinABalloon() {
        many("#0 1", 1, 1, 2, 0, 0, 2);
        many("#0 1 1", 1, 2, 3, 1, 1, 2);
        many("#0 1/#0 1", 2, 2, 4, 0, 0, 4);
        many("#0 1 a/#0 a 1", 2, 2, 3, 0, 0, 2);
        many("#0 1 1/#0 1/#0 1 1 1", 3, 6, 9, 3, 3, 6);
        many("#0" + " 1".repeat(24), 1, 24, 25, 23, 23, 2);
    }

    private static void bursts(String text, int... want) {
        BalloonStall x = with(text).get();
        for (int b = 0; b < want.length; b++) {
            Checks.due("bursts(0, " + b + ") of " + text, x.bursts(0, b), want[b]);
        }
    }

    private static void rest(String text, int... want) {
        BalloonStall x = with(text).get();
        for (int b = 0; b < want.length; b++) {
            Checks.due("rest(0, " + b + ") of " + text, x.rest(0, b), want[b]);
        }
    }

    // "more than its SORT's AIR"
    private static void itBurstsIfItNeedsMoreThanItsAir() {
        bursts("#2 5", -1);
        bursts("#2 6", 0);
        bursts("#1 20", -1);
        bursts("#1 21", 0);
        bursts("#0 30 30 30 30 30 30 20", -1);
        bursts("#0 30 30 30 30 30 30 21", 6);
        bursts("#0 30 30 30 30 30 30 20 1", 7);
        bursts("#2 5/#2 6/#0 6/#2 5", -1, 1, -1, -1);
        bursts("#2 a", -1);
    }

    // "at the first BUBBLE up to which it would need more"
    private static void itBurstsAtTheFirstBubble() {
        bursts("#2 6 1 1", 0);
        bursts("#1 9 9 9", 1);
        bursts("#1 1/#1 21 21/#1 1 17 1", -1, 1, 4);
        bursts("#0 1 1/#2 30 30", -1, 2);
    }

    // "and STRAIN for each of its TWISTS"
    private static void strainIsForTwists() {
        bursts("#1 8 9", -1);
        bursts("#1 8 10", 1);
        bursts("#1 4 5 5", -1);
        bursts("#1 4 5 6", 2);
        bursts("#1 15 1 1", 2);
        bursts("#1 20 1", 1);
        rest("#1 20", 0);
        rest("#1 19", 1);
        rest("#1 8 8", 1);
        rest("#1 4 4 4", 2);
        rest("#1 1 a/#1 a 1", 19, 19);
        rest("#1(1)(1)(1)", 11);
        rest("#2 1", 4);
        rest("#2 1 1", 0);
    }

    // "REST: AIR less what it needs, 0 at least."
    private static void restIs0AtLeast() {
        rest("#2 4", 1);
        rest("#2 5", 0);
        rest("#2 6", 0);
        rest("#2 30 30 30", 0);
        rest("#0 30 30 30 30 30 30 19", 1);
        rest("#0 30 30 30 30 30 30 20", 0);
        rest("#0 30 30 30 30 30 30 21", 0);
        rest("#0 1", 199);
        rest("#0 a/#1 a/#2 a", 200, 20, 5);
    }

    private static void hands(String text, int want) {
        Checks.due("hands of " + text, with(text).get().hands(0), want);
    }

    // "of TWISTS made so far .. at POINTS with less than three ENDS so far"
    private static void handsHoldTwistsWithLessThanThreeEnds() {
        hands("#0 1 1", 1);
        hands("#0 1 a 1/#0 a 1", 1);
        hands("#0 a 1/#0 a 1/#0 1", 0);
        hands("#0 b/#0 a 1 b 1", 1);
        hands("#0 b 1/#0 a 1 b 1", 0);
        hands("#0 b 1/#0 b 1/#0 a 1 b 1", 0);
        hands("#0 b(1)/#0 1 b 1", 0);
        hands("#0(1)1", 0);
        hands("#0 1 1 1/#0 1 1", 3);
        hands("#0 1 a 1 1/#0 a 1 1", 2);
        hands("#0 1 a 1 b 1/#0 a 1/#0 b 1/#0 1 1", 2);
        hands("#0" + " 1".repeat(24), 23);
    }

    // "(that with it, too)"; "as a BUBBLE was just made"
    private static void handsCountTheTwistOfTheNewBubble() {
        hands("#0 1", 0);
        hands("#0 a", 0);
        hands("#0 1 1 1", 2);
        hands("#0 1 1 1 1", 3);
        hands("#0 1 a 1 1/#0 1 a", 2);
        hands("#0 1 a 1 1/#0 1 a 1 1 1", 3);
    }

    // "(JOINED being what was told ahead of it)"
    private static void handsKnowJoinsToldAhead() {
        hands("#0 1 a 1 a", 1);
        hands("#0 1 a 1 a 1", 1);
        hands("#0 1(1)", 1);
        hands("#0 1(1)1(1)1", 1);
        hands("#0 1(1 1)1", 2);
        hands("#0(1 1)1(1 1)1", 3);
        hands("#0 1 1 1 a/#0 1 a", 2);
        hands("#0 1 b 1/#0 1 1 b", 2);
        hands("#0 1 b 1/#0 1 b 1 1", 1);
        hands("#0 a 1/#0 b 1/#0 a b 1 c 1/#0 c 1", 1);
        hands("#0 a 1/#0 a 1/#0 1 a 1", 0);
    }

    // "(of PLAIN and ADDED ones: as if all JOINS were told at the beginning)"
    private static void handsOfPlainAndAddedOnes() {
        BalloonStall x = with("#0 1 a 1 a", "#0 b", "#0 1 1 1", "#0(1 1)1").get();
        Checks.due("the joins as told", x.hands(0), 1);
        Checks.due("add(0, 1, 0, 0)", x.add(0, 1, 0, 0), 4);
        Checks.due("the joins at the beginning", x.hands(4), 0);
        Checks.due("plain(0)", x.plain(0), 5);
        Checks.due("hands of what was plain", x.hands(5), 0);
        Checks.due("add(2, 1, 0, 0)", x.add(2, 1, 0, 0), 6);
        Checks.due("hands of one that is not joined", x.hands(6), 2);
        Checks.due("add(2, 2, 1, 0)", x.add(2, 2, 1, 0), 7);
        Checks.due("hands, one twist locked by the second", x.hands(7), 3);
        Checks.due("add(2, 2, 0, 1)", x.add(2, 2, 0, 1), 8);
        Checks.due("hands, the second's twist locked by the first", x.hands(8), 3);
        Checks.due("plain(7)", x.plain(7), 9);
        Checks.due("hands of its plain", x.hands(9), 1);
        Checks.due("hands(3)", x.hands(3), 1);
        Checks.due("add(3, 1, 0, 0)", x.add(3, 1, 0, 0), 10);
        Checks.due("hands(10)", x.hands(10), 1);
    }

    private static void holds(String text, int... want) {
        BalloonStall x = with(text).get();
        for (int i = 0; i < want.length; i++) {
            Checks.due("holds(0, " + i + ") of " + text, x.holds(0, i), want[i]);
        }
    }

    // "A TWIST HOLDS, if its POINT has three ENDS or more; others are SLACK."
    private static void aTwistHoldsWithThreeEnds() {
        holds("#0 1 1", 0, -1);
        holds("#0 1 a 1/#0 a 1", 1, -1, -1);
        holds("#0 1 a 1/#0 a", 0, -1);
        holds("#0 1 a 1/#0 a 1/#0 a 1", 1, -1, -1, -1);
        holds("#0 1(1)", 1, -1);
        holds("#0(1)(1)", 1, -1);
        holds("#0 1 a 1 a", 1, -1);
        holds("#0(1 1)", 0, -1);
        many("#0 1 a 1/#0 a 1", 2, 3, 4, 1, 0, 4);
        many("#0 1 a 1/#0 a", 2, 2, 3, 1, 1, 2);
    }

    // "it is the last one of its BALLOON"
    private static void theLastOfItsBalloonHasNoTwist() {
        holds("#0 1", -1, -1);
        holds("#0 1 1/#0 1 1 1/#0 1", 0, -1, 0, 0, -1, -1, -1);
        holds("#0 1 a/#0 a 1/#0 a 1 1", -1, -1, 0, -1);
        BalloonStall x = with("#0" + " 1".repeat(24)).get();
        Checks.due("the last but one of 24", x.holds(0, 22), 0);
        Checks.due("the last of 24", x.holds(0, 23), -1);
    }

    // "both BUBBLES are one, as long as both"
    private static void plainTurnsEachSlackTwistBack() {
        BalloonStall x = with("#0 1 2", "#0" + " 30".repeat(24), "#0(1 2 3)", "#1 9 9 9/#2 a").get();
        Checks.due("plain of two", x.plain(0), 4);
        row(x, 4, 0, 3);
        row(x, 4, 1, 0);
        row(x, 4, 2, 1);
        Checks.due("plain of 24", x.plain(1), 5);
        row(x, 5, 0, 720);
        Checks.due("points", x.many(5, 2), 2);
        Checks.due("it bursts", x.bursts(5, 0), 0);
        Checks.due("its rest", x.rest(5, 0), 0);
        Checks.due("far", x.far(5, 0, 1), 720);
        Checks.due("plain of a ring", x.plain(2), 6);
        row(x, 6, 0, 6);
        row(x, 6, 2, 0);
        Checks.due("points", x.many(6, 2), 1);
        Checks.due("ends", x.ends(6, 0), 2);
        Checks.due("plain with a balloon without bubbles", x.plain(3), 7);
        row(x, 7, 0, 27);
        Checks.due("points", x.many(7, 2), 3);
        Checks.due("balloons", x.many(7, 0), 2);
        Checks.due("rest of the second", x.rest(7, 1), 5);
        Checks.due("what was plain made of stays", x.many(0, 1), 2);
    }

    private static void plainKeepsWhatHolds() {
        BalloonStall x = with("#0 1 a 2/#0 a 3", "#1 1 2 a 3 4/#2 a 5 6").get();
        Checks.due("plain without slack twists", x.plain(0), 2);
        row(x, 2, 0, 1, 2, 3);
        Checks.due("alike(0, 2)", x.alike(0, 2), 1);
        Checks.due("plain", x.plain(1), 3);
        row(x, 3, 0, 3, 7, 11);
        row(x, 3, 3, 0, 0, 1);
        row(x, 3, 4, 1, 1, 2);
        Checks.due("holds(3, 0)", x.holds(3, 0), 1);
        Checks.due("slack twists", x.many(3, 4), 0);
        Checks.due("plain of plain", x.plain(3), 4);
        row(x, 4, 0, 3, 7, 11);
    }

    // "(BUBBLES and POINTS numbered anew, in their order; SORTS of BALLOONS stay)"
    private static void plainNumbersAnew() {
        BalloonStall x = with("#2 1 2/#1 b 3 4 c 5/#0 c 6 7 b").get();
        Checks.due("plain", x.plain(0), 1);
        row(x, 1, 0, 3, 7, 5, 13);
        row(x, 1, 1, 0, 2, 3, 3);
        row(x, 1, 2, 1, 3, 4, 2);
        row(x, 1, 3, 0, 1, 1, 2);
        row(x, 1, 4, 2, 1, 1, 0);
        int[] ends = {1, 1, 2, 3, 1, -1};
        for (int p = 0; p < ends.length; p++) {
            Checks.due("ends(1, " + p + ")", x.ends(1, p), ends[p]);
        }
    }

    // "NONE: no such one, there are twelve."
    private static void plainIsTheTwelfthFigure() {
        String[] eleven = new String[11];
        Arrays.fill(eleven, "#0 1 2");
        String[] twelve = new String[12];
        Arrays.fill(twelve, "#0 1 2");
        Checks.due("plain is the twelfth", with(eleven).get().plain(10), 11);
        Twins.none("plain of one of twelve", with(twelve), x -> x.plain(11));
        Twins.none("plain of no such one of twelve", with(twelve), x -> x.plain(12));
    }
}
