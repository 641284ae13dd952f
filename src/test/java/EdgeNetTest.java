import java.util.function.Supplier;

/** The boundary cases of promises 19 to 22, sentence by sentence: figures that are alike, ways between points. */
public final class EdgeNetTest {
    private static final int MOST = Integer.MAX_VALUE;
    private static final int LEAST = Integer.MIN_VALUE;

    public static void main(String[] args) {
        noSuchOnes();
        ofEightPointsAtMost();
        pointsAreMatchedOneToOne();
        asManyBubblesOfEachLength();
        fromEachPointToItself();
        directionBalloonsAndSortsDoNotCount();
        theFirstRow();
        noMatchWhereNotAlike();
        theLatestPairDoesNotStay();
        farToItselfIs0();
        farIsTheLeastLength();
        whatCanNotBeReached();
        spanOfOnePart();
        spanOfSeveralParts();
        ofThirtyPoints();
        Checks.close("EdgeNetTest");
    }

    private static Supplier<BalloonStall> with(String... texts) {
        return () -> {
            BalloonStall x = Checks.withSorts();
            for (String text : texts) {
                Checks.due("fault of " + text, Checks.fault(x, 0, text), -1);
                x.figure();
            }
            return x;
        };
    }

    private static void alike(String one, String other, int want) {
        BalloonStall x = with(one, other).get();
        Checks.due(one + " alike " + other, x.alike(0, 1), want);
        Checks.due(other + " alike " + one, x.alike(1, 0), want);
        Checks.due(one + " alike itself", x.alike(0, 0), want < 0 ? x.alike(0, 0) : 1);
    }

    private static void match(String one, String other, int... want) {
        BalloonStall x = with(one, other).get();
        for (int p = 0; p < want.length; p++) {
            Checks.due("match of " + p + " of " + one + " in " + other, x.match(0, 1, p), want[p]);
        }
        Checks.due("match of no point", x.match(0, 1, want.length), -1);
    }

    // "NONE: no such ones"
    private static void noSuchOnes() {
        for (int wrong : new int[] {LEAST, -1, 3, 12, MOST}) {
            Twins.none("alike(" + wrong + ", 0)", Twins::busy, x -> x.alike(wrong, 0));
            Twins.none("alike(0, " + wrong + ")", Twins::busy, x -> x.alike(0, wrong));
            Twins.none("alike of none", Twins::busy, x -> x.alike(wrong, wrong));
            Twins.none("match(" + wrong + ", 0, 0)", Twins::busy, x -> x.match(wrong, 0, 0));
            Twins.none("match(0, " + wrong + ", 0)", Twins::busy, x -> x.match(0, wrong, 0));
            Twins.none("far(" + wrong + ", 0, 0)", Twins::busy, x -> x.far(wrong, 0, 0));
            Twins.none("span(" + wrong + ")", Twins::busy, x -> x.span(wrong));
        }
        for (int wrong : new int[] {LEAST, -1, 4, 8, 30, 31, MOST}) {
            Twins.none("match(0, 0, " + wrong + ")", Twins::busy, x -> x.match(0, 0, wrong));
            Twins.none("far(0, 0, " + wrong + ")", Twins::busy, x -> x.far(0, 0, wrong));
            Twins.none("far(0, " + wrong + ", 0)", Twins::busy, x -> x.far(0, wrong, 0));
            Twins.none("far(0, " + wrong + ", " + wrong + ")", Twins::busy, x -> x.far(0, wrong, wrong));
        }
        Checks.due("match(0, 0, 3)", Twins.busy().match(0, 0, 3), 3);
        Checks.due("far(0, 3, 3)", Twins.busy().far(0, 3, 3), 0);
    }

    // "(of eight POINTS at most each)"
    private static void ofEightPointsAtMost() {
        String eight = "#0 1 1 1 1 1 1 1";
        String nine = "#0 1 1 1 1 1 1 1 1";
        alike(eight, eight, 1);
        alike(eight, "#0 1 1 1 1 1 1 2", 0);
        alike(eight, nine, -1);
        alike(nine, nine, -1);
        alike("#0 1", nine, -1);
        match(eight, eight, 0, 1, 2, 3, 4, 5, 6, 7);
        match(eight, "#0 1 1 1 1 1 1/#0 1", -1, -1, -1, -1, -1, -1, -1, -1);
        Twins.none("alike of nine points", with(nine), x -> x.alike(0, 0));
        Twins.none("match of nine points", with(nine), x -> x.match(0, 0, 0));
        Twins.none("match of eight in nine points", with(eight, nine), x -> x.match(0, 1, 0));
        Twins.none("match of nine in eight points", with(eight, nine), x -> x.match(1, 0, 0));
        alike("#0 a 1 b 1 c 1 d 1 e 1 f 1 g 1 h 1 a", "#0 a 1 b 1 c 1 d 1 e 1 f 1 g 1 h 1 a", 1);
        String many = "#0 a" + " 1 b 1 a".repeat(12);
        alike(many, many, 1);
        String alone = "#0 1 1 1 1 1/#0 a/#1 b";
        alike(alone, "#1 b/#0 1 1 1 1 1/#0 a", 1);
        match(alone, "#1 b/#0 1 1 1 1 1/#0 a", 1, 2, 3, 4, 5, 6, 0, 7);
        alike(alone + "/#2 c", alone + "/#2 c", -1);
    }

    // "if their POINTS can be matched one to one"
    private static void pointsAreMatchedOneToOne() {
        alike("#0 a", "#1 a", 1);
        alike("#0 a", "#0 a/#0 b", 0);
        alike("#0 1", "#0 1/#0 a", 0);
        alike("#0 1/#0 b", "#0 a/#0 1", 1);
        alike("#0 1/#0 1", "#0 1 1", 0);
        alike("#0 1 1", "#0 1 a/#0 a 1", 1);
    }

    // "lie as many BUBBLES of each length"
    private static void asManyBubblesOfEachLength() {
        alike("#0 a 1 b", "#0 a 1 b 1 a", 0);
        alike("#0 a 1 b 2 a", "#0 a 2 b 1 a", 1);
        alike("#0 a 1 b 2 a", "#0 a 1 b 1 a", 0);
        alike("#0 a 1 b 2 a", "#0 a 2 b 2 a", 0);
        alike("#0 a 1 b 1 a 2 b", "#0 a 1 b 2 a 2 b", 0);
        alike("#0 a 1 b 1 a 2 b 2 a", "#0 a 2 b 1 a 2 b 1 a", 1);
        alike("#0 a 1 b 4 a", "#0 a 2 b 3 a", 0);
        alike("#0 1", "#0 2", 0);
        alike("#0 30", "#1 30", 1);
        alike("#0 a 1 b 1 a/#0 b 2 c", "#0 a 1 b 2 a/#0 b 1 c", 0);
        alike("#0 a 1 b 1 c 1 a/#0 d 1 e 1 f 1 d", "#0 a 1 b 1 c 1 d 1 e 1 f 1 a", 0);
        alike("#0 a 1 b 1 a/#0 c 1 d 1 c", "#0 a 1 b 1 c 1 d 1 a", 0);
        alike("#0 a 1 b 1 a/#0 c 1 d 1 c", "#0 a 1 d 1 a/#0 c 1 b 1 c", 1);
        alike(between(1, 24), between(1, 24), 1);
        alike(between(1, 24), between(2, 25), 0);
        alike(between(1, 23) + "/#0 a 24 b", between(1, 23) + "/#0 a 25 b", 0);
        alike(between(7, 30), between(7, 30), 1);
    }

    /** Two points between which there are bubbles of all these lengths. */
    private static String between(int least, int most) {
        StringBuilder text = new StringBuilder("#0a");
        for (int length = least; length <= most; length++) {
            text.append(length).append(length % 2 == least % 2 ? 'b' : 'a');
        }
        return text.toString();
    }

    // "(and from each to itself)"
    private static void fromEachPointToItself() {
        alike("#0(1)2", "#0 2(1)", 1);
        alike("#0(1)(1)", "#0(1)", 0);
        alike("#0(1)(2)", "#0(2)(1)", 1);
        alike("#0(1)(2)", "#0(1)(1)", 0);
        alike("#0(1)2", "#0(2)1", 0);
        alike("#0 a(1)2 b 3/#0 b(4)", "#0 a(4)2 b 3/#0 b(1)", 0);
        match("#0(1)2", "#0 2(1)", 1, 0);
    }

    private static void directionBalloonsAndSortsDoNotCount() {
        alike("#0 1 2 3", "#2 3 2 1", 1);
        alike("#0 1 a 2/#1 a 3", "#2 3 b 1/#0 2 b", 1);
        alike("#0 a 1/#0 a", "#0 1", 1);
    }

    // "MATCH: of such rows the first one (POINT 0's match the lowest, then POINT 1's, ..)"
    private static void theFirstRow() {
        match("#0 1 1", "#0 1 1", 0, 1, 2);
        match("#0 1 2", "#0 2 1", 2, 1, 0);
        match("#0 a/#0 b/#0 c/#0 d/#0 e/#0 f", "#0 a/#0 b/#0 c/#0 d/#0 e/#0 f", 0, 1, 2, 3, 4, 5);
        match("#0 a 1/#0 a 1/#0 a 1/#0 a 1", "#0 1 a/#0 1 a/#0 1 a/#0 1 a", 1, 0, 2, 3, 4);
        match("#0 1/#0 2/#0 1", "#0 2/#0 1/#0 1", 2, 3, 0, 1, 4, 5);
        match("#0 1/#0 1", "#0 1/#0 1", 0, 1, 2, 3);
        match("#0 a 1 b 1 c 1 d 1 a", "#0 a 1 c 1 b 1 d 1 a", 0, 1, 2, 3);
        match("#0 a 1 b 2 c", "#0 c 2 b 1 a", 2, 1, 0);
        match("#0 1/#0 a", "#0 a/#0 1", 1, 2, 0);
    }

    private static void noMatchWhereNotAlike() {
        match("#0 1 1", "#0 1 2", -1, -1, -1);
        match("#0 1", "#0 1 1", -1, -1);
        match("#0 1 1", "#0 1", -1, -1, -1);
        match("#0 a", "#0 a/#0 b", -1);
    }

    private static void theLatestPairDoesNotStay() {
        BalloonStall x = with("#0 1 2", "#0 2 1", "#0 1 1").get();
        Checks.due("match(0, 1, 0)", x.match(0, 1, 0), 2);
        Checks.due("alike(0, 2)", x.alike(0, 2), 0);
        Checks.due("match(0, 2, 0)", x.match(0, 2, 0), -1);
        Checks.due("match(0, 1, 0)", x.match(0, 1, 0), 2);
        Checks.due("match(0, 0, 0)", x.match(0, 0, 0), 0);
        Checks.due("match(1, 0, 2)", x.match(1, 0, 2), 0);
        Checks.due("match(0, 3, 0)", x.match(0, 3, 0), -1);
        Checks.figure(x, "#0 2 1");
        Checks.due("match(0, 3, 0) when it is there", x.match(0, 3, 0), 2);
        BalloonStall y = with(between(1, 24), between(7, 30), "#0(29)", "#0(28)", "#0(3)").get();
        for (int again = 0; again < 2; again++) {
            for (int one = 0; one < 5; one++) {
                for (int other = 0; other < 5; other++) {
                    Checks.due("alike(" + one + ", " + other + ")", y.alike(one, other), one == other ? 1 : 0);
                }
            }
        }
    }

    private static void farToItselfIs0() {
        BalloonStall x = with("#0(1)1", "#0 a").get();
        Checks.due("far(0, 0, 0), by a loop", x.far(0, 0, 0), 0);
        Checks.due("far(0, 1, 1)", x.far(0, 1, 1), 0);
        Checks.due("far(1, 0, 0)", x.far(1, 0, 0), 0);
        Checks.due("far(1, 0, 1)", x.far(1, 0, 1), -1);
    }

    // "FAR: the least length of BUBBLES from a POINT to another one"
    private static void farIsTheLeastLength() {
        BalloonStall x = with("#0 a 5 b 4 a", "#0 a 9 b/#0 a 4 c 4 b", "#0 a 8 b/#0 a 4 c 4 b", "#0 a 7 b/#0 a 4 c 4 b",
            "#0" + " 30".repeat(24)).get();
        Checks.due("the shorter of two", x.far(0, 0, 1), 4);
        Checks.due("against the bubbles' way", x.far(0, 1, 0), 4);
        Checks.due("round about, 8 to 9", x.far(1, 0, 1), 8);
        Checks.due("round about, 8 to 8", x.far(2, 0, 1), 8);
        Checks.due("round about, 8 to 7", x.far(3, 0, 1), 7);
        Checks.due("by the other point, 4 to 11", x.far(3, 0, 2), 4);
        Checks.due("the longest way", x.far(4, 24, 0), 720);
        Checks.due("span of it", x.span(4), 720);
    }

    // "it can not be reached"
    private static void whatCanNotBeReached() {
        BalloonStall x = with("#0 1/#0 1", "#0 1/#0 a", "#0 1 a/#0 1 a").get();
        Checks.due("far(0, 0, 1)", x.far(0, 0, 1), 1);
        Checks.due("far(0, 0, 2)", x.far(0, 0, 2), -1);
        Checks.due("far(0, 3, 1)", x.far(0, 3, 1), -1);
        Checks.due("far(0, 3, 2)", x.far(0, 3, 2), 1);
        Checks.due("far(1, 0, 2)", x.far(1, 0, 2), -1);
        Checks.due("far(2, 0, 2)", x.far(2, 0, 2), 2);
    }

    // "SPAN: the greatest FAR"
    private static void spanOfOnePart() {
        BalloonStall x = with("#0 a", "#0(7)", "#0 1", "#0 a 5 b 5 c 5 a", "#0 a 30 b/#0 a 1 c 1 b").get();
        int[] want = {0, 0, 1, 5, 2, -1};
        for (int f = 0; f < want.length; f++) {
            Checks.due("span(" + f + ")", x.span(f), want[f]);
        }
    }

    private static void ofThirtyPoints() {
        BalloonStall x = with("#0 1 2 3 4/#0 1 1 1 1/#0 1 1 1 1/#0 1 1 1 1/#0 1 1 1 1/#0 1 1 1 30").get();
        Checks.due("far(0, 25, 29)", x.far(0, 25, 29), 33);
        Checks.due("far(0, 29, 25)", x.far(0, 29, 25), 33);
        Checks.due("far(0, 29, 24)", x.far(0, 29, 24), -1);
        Checks.due("far(0, 30, 30)", x.far(0, 30, 30), -1);
        Checks.due("span", x.span(0), 33);
        Checks.due("alike", x.alike(0, 0), -1);
    }

    // "of POINTS that can be reached from each other"
    private static void spanOfSeveralParts() {
        BalloonStall x = with("#0 3/#0 4", "#0 4/#0 3", "#0 a/#0 b", "#0 a/#0 9", "#0 1 1 1/#0 2").get();
        int[] want = {4, 4, 0, 9, 3};
        for (int f = 0; f < want.length; f++) {
            Checks.due("span(" + f + ")", x.span(f), want[f]);
        }
    }
}
