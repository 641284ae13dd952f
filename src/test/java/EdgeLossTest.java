import java.util.function.Supplier;

/** The boundary cases of promises 16 to 18, sentence by sentence: pops, the weakest bubble, two figures added. */
public final class EdgeLossTest {
    private static final int MOST = Integer.MAX_VALUE;
    private static final int LEAST = Integer.MIN_VALUE;

    public static void main(String[] args) {
        noSuchPop();
        threeKindsOfPop();
        lostWithLessThanThreeEndsLeft();
        lostBehindAndAhead();
        lostInItsBalloonAlone();
        lostOneByAnother();
        aLoopLeavesTwoEnds();
        allOf24AreLost();
        ofThirtyPoints();
        fallsCountsWhatIsNotLost();
        partsHangTogetherByPoints();
        weakestLosesMost();
        weakestOfSeveralIsTheLowest();
        addedHas24BubblesAtMost();
        addedHasSixBalloonsAtMost();
        addedIsTheTwelfthFigure();
        addedOfNoSuchOnes();
        addedJoinsTwoPoints();
        addedToItself();
        Checks.close("EdgeLossTest");
    }

    private static Supplier<BalloonStall> with(String... texts) {
        return () -> {
            BalloonStall x = Checks.withSorts();
            for (String text : texts) {
                Checks.due("fault of " + text, Checks.fault(x, 0, text), -1);
                x.figure();
            }
            return x;
        };
    }

    private static void pop(String text, int bubble, int lost, int falls) {
        BalloonStall x = with(text).get();
        String call = "pop of " + bubble + " of " + text;
        Checks.due(call + ", 0", x.pop(0, bubble, 0), lost);
        Checks.due(call + ", 1", x.pop(0, bubble, 1), Integer.bitCount(lost));
        Checks.due(call + ", 2", x.pop(0, bubble, 2), falls);
        Checks.due("the figure stays", x.bubble(0, bubble, 0) > 0, true);
        Checks.due(call + ", 0, again", x.pop(0, bubble, 0), lost);
    }

    // "NONE: no such ones."
    private static void noSuchPop() {
        for (int wrong : new int[] {LEAST, -1, 4, 24, 31, 32, MOST}) {
            Twins.none("pop(0, " + wrong + ", 0)", Twins::busy, x -> x.pop(0, wrong, 0));
            Twins.none("pop(" + wrong + ", 0, 0)", Twins::busy, x -> x.pop(wrong, 0, 0));
            Twins.none("pop(0, 0, " + wrong + ")", Twins::busy, x -> x.pop(0, 0, wrong));
            Twins.none("weakest(" + wrong + ")", Twins::busy, x -> x.weakest(wrong));
        }
        Twins.none("pop(3, 0, 0)", Twins::busy, x -> x.pop(3, 0, 0));
        Twins.none("weakest(3)", Twins::busy, x -> x.weakest(3));
        Twins.none("pop of a figure without bubbles", Twins::busy, x -> x.pop(2, 0, 1));
        Twins.none("weakest of a figure without bubbles", Twins::busy, x -> x.weakest(2));
    }

    private static void threeKindsOfPop() {
        BalloonStall x = with("#0 1 a 1/#0 a 1/#0 1").get();
        int[] want = {-1, 3, 2, 2, -1};
        for (int what = -1; what <= 3; what++) {
            Checks.due("pop(0, 1, " + what + ")", x.pop(0, 1, what), want[what + 1]);
        }
    }

    // "if at the POINT between these less than three ENDS of BUBBLES not LOST lie"
    private static void lostWithLessThanThreeEndsLeft() {
        pop("#0 1 a 1", 0, 3, 0);
        pop("#0 1 a 1/#0 a 1", 0, 3, 1);
        pop("#0 1 a 1/#0 a 1/#0 a 1", 0, 1, 1);
        pop("#0 1 a 1/#0 a 1/#0 a 1/#0 a 1", 0, 1, 1);
        pop("#0 1 a 1/#0 a 1", 2, 4, 1);
        pop("#0 1 a 1/#0 a", 0, 3, 0);
    }

    // "that is followed by a LOST one in its BALLOON, or follows one"
    private static void lostBehindAndAhead() {
        pop("#0 1 1 1", 0, 7, 0);
        pop("#0 1 1 1", 1, 7, 0);
        pop("#0 1 1 1", 2, 7, 0);
        pop("#0 1 a 1 1/#0 a 1/#0 a 1", 0, 1, 1);
        pop("#0 1 a 1 1/#0 a 1/#0 a 1", 1, 6, 1);
        pop("#0 1 a 1 1/#0 a 1/#0 a 1", 2, 6, 1);
        pop("#0 1 a 1 1/#0 a 1", 2, 7, 1);
        pop("#0 1 1 a 1/#0 a 1/#0 a 1", 0, 3, 1);
        pop("#0 1 1 a 1/#0 a 1/#0 a 1", 2, 4, 1);
    }

    private static void lostInItsBalloonAlone() {
        pop("#0 1/#0 1", 0, 1, 1);
        pop("#0 1 a/#0 a 1", 0, 1, 1);
        pop("#0 1 a/#0 a 1", 1, 2, 1);
        pop("#0 1 a/#0 a 1 1/#0 a", 0, 1, 1);
        pop("#0 a 1 1 a", 1, 3, 0);
        pop("#0 a 1 1/#0 1 a", 2, 4, 1);
    }

    // "and so on"
    private static void lostOneByAnother() {
        pop("#0 1 a 1 b 1/#0 a 1/#0 b 1", 0, 7, 2);
        pop("#0 1 a 1 b 1/#0 a 1/#0 b 1/#0 b 1", 0, 3, 2);
        pop("#0 1 a 1 b 1/#0 a 1/#0 b 1/#0 b 1", 2, 4, 1);
        pop("#0 1 a 1 b 1/#0 a 1/#0 b 1", 2, 7, 2);
        pop("#0 1 a 1 b 1/#0 a 1 b", 0, 7, 1);
        pop("#0 1 a 1 b 1/#0 a 1 b", 3, 8, 1);
        pop("#0 1 a 1 a 1", 0, 1, 1);
        pop("#0 1 a 1 a 1", 1, 7, 0);
        pop("#0 5(3 3)4", 1, 15, 0);
        pop("#0 1 a 1 b 1 a 1 b 1", 0, 1, 1);
        pop("#0 1 a 1 b 1 a 1 b 1", 2, 4, 1);
        pop("#0 1 a 1 b 1 a 1 b 1/#0 1", 1, 2, 2);
    }

    private static void aLoopLeavesTwoEnds() {
        pop("#0 1(1)1", 0, 1, 1);
        pop("#0 1(1)1", 1, 7, 0);
        pop("#0 1(1)1", 2, 4, 1);
        pop("#0 1(1)", 0, 3, 0);
        pop("#0 1(1)", 1, 3, 0);
        pop("#0(1)(1)", 0, 3, 0);
        pop("#0(1)(1)(1)", 0, 1, 1);
        pop("#0(1)(1)(1)", 1, 2, 1);
        pop("#0(1)", 0, 1, 0);
    }

    private static void allOf24AreLost() {
        int all = (1 << 24) - 1;
        pop("#0" + " 1".repeat(24), 0, all, 0);
        pop("#0" + " 1".repeat(24), 23, all, 0);
        pop("#0" + "(1)".repeat(24), 23, 1 << 23, 1);
        pop("#0" + " 1".repeat(12) + "/#0" + " 1".repeat(12), 12, all & ~0xfff, 1);
        pop("#0" + " 1".repeat(12) + "/#0" + " 1".repeat(12), 11, 0xfff, 1);
    }

    private static void ofThirtyPoints() {
        String six = "#0 1 1 1 1/#0 1 1 1 1/#0 1 1 1 1/#0 1 1 1 1/#0 1 1 1 1/#0 1 1 1 1";
        pop(six, 0, 15, 5);
        pop(six, 23, 0xf00000, 5);
        weakest(six, 0);
    }

    // "FALLS: of how many parts .. what is not LOST consists"
    private static void fallsCountsWhatIsNotLost() {
        pop("#0 1", 0, 1, 0);
        pop("#0 1/#0 a/#0 b", 0, 1, 0);
        pop("#0 1/#0 1", 0, 1, 1);
        pop("#0 1/#0 1/#0 1", 1, 2, 2);
        pop("#0 1/#0 1/#0 1/#0 1/#0 1/#0 1", 5, 32, 5);
        pop("#0 1 a/#0 a 1 b/#0 b 1", 1, 2, 2);
        pop("#0 1 a/#0 a 1 b/#0 b 1", 0, 1, 1);
    }

    // "(that hang together by POINTS)"
    private static void partsHangTogetherByPoints() {
        pop("#0 1/#0 a 1/#0 b 1/#0 b 1 a", 0, 1, 1);
        pop("#0 1/#0 a 1/#0 b 1/#0 b 1 a", 3, 8, 3);
        pop("#0 1/#0 a 1 b/#0 a 1 b", 1, 2, 2);
        pop("#0 1/#0 a(1)/#0 a(1)", 0, 1, 1);
        pop("#0 a 1 b/#0 1 a/#0 a 1 b/#0 1", 3, 8, 1);
        pop("#0 a 1 b/#0 1 a/#0 a 1 b/#0 1", 1, 2, 2);
    }

    private static void weakest(String text, int want) {
        Checks.due("weakest of " + text, with(text).get().weakest(0), want);
    }

    // "WEAKEST: the BUBBLE whose POP loses most"
    private static void weakestLosesMost() {
        weakest("#0 1", 0);
        weakest("#0 30/#0 1 1", 1);
        weakest("#0 1 1/#0 1 1 1", 2);
        weakest("#0 1 a 1/#0 a 1/#0 a 1 1", 3);
        weakest("#0 1(1)1", 1);
        weakest("#0 1/#0 1/#0 1/#0" + " 1".repeat(21), 3);
    }

    // "of several the lowest"
    private static void weakestOfSeveralIsTheLowest() {
        weakest("#0 1/#0 30", 0);
        weakest("#0 1/#0 1 1/#0 30 30", 1);
        weakest("#0 1 1 1/#0 1 1 1", 0);
        weakest("#0" + " 1".repeat(24), 0);
    }

    private static String chain(int bubbles) {
        return "#0" + " 1".repeat(bubbles);
    }

    // "(24 BUBBLES .. at most)"
    private static void addedHas24BubblesAtMost() {
        Checks.due("12 and 12", with(chain(12), chain(12)).get().add(0, 1, 0, 0), 2);
        Twins.none("12 and 13", with(chain(12), chain(13)), x -> x.add(0, 1, 0, 0));
        Twins.none("13 and 12", with(chain(12), chain(13)), x -> x.add(1, 0, 0, 0));
        Checks.due("24 and none", with(chain(24), "#0 a").get().add(0, 1, 24, 0), 2);
        Checks.due("none and 24", with(chain(24), "#0 a").get().add(1, 0, 0, 24), 2);
        Twins.none("24 and 1", with(chain(24), "#0 1"), x -> x.add(0, 1, 24, 0));
        Twins.none("1 and 24", with(chain(24), "#0 1"), x -> x.add(1, 0, 0, 24));
        Twins.none("24 and 24", with(chain(24)), x -> x.add(0, 0, 0, 0));
        BalloonStall x = with(chain(23), "#2 7").get();
        Checks.due("23 and 1", x.add(0, 1, 23, 1), 2);
        Checks.due("bubbles", x.many(2, 1), 24);
        Checks.due("points", x.many(2, 2), 25);
        Checks.due("the last from", x.bubble(2, 23, 1), 24);
        Checks.due("the last to", x.bubble(2, 23, 2), 23);
        Checks.due("the last length", x.bubble(2, 23, 0), 7);
        Checks.due("the last sort", x.bubble(2, 23, 4), 2);
    }

    private static String points(int balloons) {
        return "#1 a" + "/#1 a".repeat(balloons - 1);
    }

    // "six BALLOONS at most"
    private static void addedHasSixBalloonsAtMost() {
        Checks.due("3 and 3", with(points(3)).get().add(0, 0, 0, 0), 1);
        Checks.due("5 and 1", with(points(5), points(1)).get().add(0, 1, 0, 0), 2);
        Checks.due("1 and 5", with(points(5), points(1)).get().add(1, 0, 0, 0), 2);
        Twins.none("3 and 4", with(points(3), points(4)), x -> x.add(0, 1, 0, 0));
        Twins.none("4 and 3", with(points(3), points(4)), x -> x.add(1, 0, 0, 0));
        Twins.none("6 and 1", with(points(6), points(1)), x -> x.add(0, 1, 0, 0));
        Twins.none("6 and 6", with(points(6)), x -> x.add(0, 0, 0, 0));
        BalloonStall x = with("#0 1/#1 1/#2 1/#0 1/#1 1", "#2 1").get();
        Checks.due("5 and 1", x.add(0, 1, 9, 0), 2);
        Checks.due("balloons", x.many(2, 0), 6);
        Checks.due("the last balloon", x.bubble(2, 5, 3), 5);
        Checks.due("its sort", x.bubble(2, 5, 4), 2);
        Checks.due("its rest", x.rest(2, 5), 4);
    }

    // "there are twelve"
    private static void addedIsTheTwelfthFigure() {
        String[] eleven = new String[11];
        java.util.Arrays.fill(eleven, "#0 1");
        String[] twelve = new String[12];
        java.util.Arrays.fill(twelve, "#0 1");
        Checks.due("added is the twelfth", with(eleven).get().add(0, 10, 0, 0), 11);
        Twins.none("one added to twelve", with(twelve), x -> x.add(0, 11, 0, 0));
    }

    // "no such ones"
    private static void addedOfNoSuchOnes() {
        for (int wrong : new int[] {LEAST, -1, 3, 12, MOST}) {
            Twins.none("add(" + wrong + ", 0, 0, 0)", Twins::busy, x -> x.add(wrong, 0, 0, 0));
            Twins.none("add(0, " + wrong + ", 0, 0)", Twins::busy, x -> x.add(0, wrong, 0, 0));
        }
        for (int wrong : new int[] {LEAST, -1, 4, 30, MOST}) {
            Twins.none("add(0, 1, " + wrong + ", 0)", Twins::busy, x -> x.add(0, 1, wrong, 0));
            Twins.none("add(1, 0, 0, " + wrong + ")", Twins::busy, x -> x.add(1, 0, 0, wrong));
        }
        Twins.none("add(2, 2, 1, 0)", Twins::busy, x -> x.add(2, 2, 1, 0));
        Twins.none("add(2, 2, 0, 1)", Twins::busy, x -> x.add(2, 2, 0, 1));
        Checks.due("add(2, 2, 0, 0)", Twins.busy().add(2, 2, 0, 0), 3);
        Checks.due("add(0, 1, 3, 3)", Twins.busy().add(0, 1, 3, 3), 3);
    }

    // "a POINT of the one and one of the other JOINED"
    private static void addedJoinsTwoPoints() {
        int[][] from = {{0, 1, 0, 3}, {0, 1, 3, 0}, {0, 1, 3, 4}};
        int[][] to = {{1, 2, 3, 4}, {1, 2, 0, 4}, {1, 2, 4, 0}};
        for (int its = 0; its < 3; its++) {
            BalloonStall x = with("#0 1 2", "#0 3 4").get();
            Checks.due("add(0, 1, 0, " + its + ")", x.add(0, 1, 0, its), 2);
            Checks.due("points", x.many(2, 2), 5);
            for (int i = 0; i < 4; i++) {
                Checks.due("from of " + i, x.bubble(2, i, 1), from[its][i]);
                Checks.due("to of " + i, x.bubble(2, i, 2), to[its][i]);
            }
        }
        BalloonStall x = with("#0 1 2", "#0 3 4").get();
        x.add(0, 1, 2, 1);
        Checks.due("ends of the joined point", x.ends(2, 2), 3);
        Checks.due("the second's twist holds", x.holds(2, 2), 1);
        Checks.due("the first's does not", x.holds(2, 0), 0);
        Checks.due("balloons stay two", x.bubble(2, 2, 3), 1);
        Checks.due("no twist between them", x.holds(2, 1), -1);
    }

    private static void addedToItself() {
        BalloonStall x = with("#1 1 2").get();
        Checks.due("add(0, 0, 2, 0)", x.add(0, 0, 2, 0), 1);
        Checks.due("bubbles", x.many(1, 1), 4);
        Checks.due("points", x.many(1, 2), 5);
        Checks.due("balloons", x.many(1, 0), 2);
        Checks.due("span", x.span(1), 6);
        Checks.due("the figure stays", x.many(0, 1), 2);
        Checks.due("add(1, 1, 0, 4)", x.add(1, 1, 0, 4), 2);
        Checks.due("span", x.span(2), 12);
        Checks.due("add(2, 1, 0, 0)", x.add(2, 1, 0, 0), 3);
        Checks.due("balloons", x.many(3, 0), 6);
    }
}
