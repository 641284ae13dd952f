import java.util.function.Supplier;

/** The boundary cases of promises 34 and 35, sentence by sentence: figures that age by rules till they fall. */
public final class EdgeAgeTest {
    private static final int MOST = Integer.MAX_VALUE;
    private static final int LEAST = Integer.MIN_VALUE;

    public static void main(String[] args) {
        noSuchOnes();
        noSuchFalls();
        hoursAreFrom0To60();
        hour60IsTheLast();
        losesZeroAtLeast();
        losesNoMoreThanItHas();
        zeroLengthIsLost();
        lettersAsTheHourBegan();
        endsOfWhatIsNotLost();
        endsAtBothPointsAreAdded();
        letterHIsTheHour();
        strainAndAirOfItsSort();
        othersAreLostAsByPop();
        othersAreLostAtTheHoursEnd();
        theFirstHourThatSomethingIsLost();
        theFirstHourOfTwoParts();
        theFirstHourThatAllIsLost();
        aFigureWithoutBubbles();
        eachFigureAndRuleForItself();
        Checks.close("EdgeAgeTest");
    }

    private static BalloonStall stall(String figure, String rule) {
        BalloonStall x = Checks.withSorts();
        Checks.due("figure " + figure, Checks.figure(x, figure), 0);
        Checks.due("rule " + rule, Checks.rule(x, rule), 0);
        return x;
    }

    private static void aged(String figure, String rule, int bubble, int... want) {
        BalloonStall x = stall(figure, rule);
        for (int hour = 0; hour < want.length; hour++) {
            Checks.due("length of " + bubble + " behind " + hour + " of " + figure + " by " + rule,
                x.aged(0, 0, hour, bubble), want[hour]);
        }
    }

    private static void falls(String figure, String rule, int some, int parts, int all) {
        BalloonStall x = stall(figure, rule);
        String of = " of " + figure + " by " + rule;
        Checks.due("falls 0" + of, x.falls(0, 0, 0), some);
        Checks.due("falls 1" + of, x.falls(0, 0, 1), parts);
        Checks.due("falls 2" + of, x.falls(0, 0, 2), all);
    }

    // "NONE: no such ones."
    private static void noSuchOnes() {
        for (int wrong : new int[] {LEAST, -1, 3, 12, MOST}) {
            Twins.none("aged(" + wrong + ", 0, 1, 0)", Twins::busy, x -> x.aged(wrong, 0, 1, 0));
        }
        for (int wrong : new int[] {LEAST, -1, 2, 6, MOST}) {
            Twins.none("aged(0, " + wrong + ", 1, 0)", Twins::busy, x -> x.aged(0, wrong, 1, 0));
        }
        for (int wrong : new int[] {LEAST, -1, 4, 24, MOST}) {
            Twins.none("aged(0, 0, 1, " + wrong + ")", Twins::busy, x -> x.aged(0, 0, 1, wrong));
            Twins.none("aged(0, 0, 0, " + wrong + ")", Twins::busy, x -> x.aged(0, 0, 0, wrong));
        }
        Twins.none("aged(2, 0, 1, 0), a figure without bubbles", Twins::busy, x -> x.aged(2, 0, 1, 0));
        Checks.due("aged(0, 1, 1, 3), the last ones", Twins.busy().aged(0, 1, 1, 3), 0);
    }

    private static void noSuchFalls() {
        for (int wrong : new int[] {LEAST, -1, 3, 12, MOST}) {
            Twins.none("falls(" + wrong + ", 0, 0)", Twins::busy, x -> x.falls(wrong, 0, 0));
            Twins.none("falls(0, 0, " + wrong + ")", Twins::busy, x -> x.falls(0, 0, wrong));
        }
        for (int wrong : new int[] {LEAST, -1, 2, 6, MOST}) {
            Twins.none("falls(0, " + wrong + ", 0)", Twins::busy, x -> x.falls(0, wrong, 0));
        }
        Checks.due("falls(0, 0, 2)", Twins.busy().falls(0, 0, 2), 2);
    }

    // "behind so many hours (0 .. 60) of AGING"
    private static void hoursAreFrom0To60() {
        Supplier<BalloonStall> slow = () -> stall("#0 30 30", "w:h/60");
        for (int hours : new int[] {LEAST, -1, 61, 62, MOST}) {
            Twins.none("aged(0, 0, " + hours + ", 0)", slow, x -> x.aged(0, 0, hours, 0));
        }
        Checks.due("aged behind 0", slow.get().aged(0, 0, 0, 0), 30);
        Checks.due("aged behind 59", slow.get().aged(0, 0, 59, 0), 30);
        Checks.due("aged behind 60", slow.get().aged(0, 0, 60, 0), 29);
        Checks.due("aged by a rule that takes all, behind 0", stall("#0 7", "w:9999").aged(0, 0, 0, 0), 7);
        Checks.due("aged by a rule that takes all, behind 1", stall("#0 7", "w:9999").aged(0, 0, 1, 0), 0);
        Checks.due("aged by a rule that takes all, behind 60", stall("#0 7", "w:9999").aged(0, 0, 60, 0), 0);
    }

    // "hour by hour (1 .. 60)"
    private static void hour60IsTheLast() {
        falls("#0 1", "w:h=59?1", 59, -1, 59);
        falls("#0 1", "w:h=60?1", 60, -1, 60);
        falls("#0 1", "w:h=61?1", -1, -1, -1);
        falls("#0 1", "w:h=0?1", -1, -1, -1);
        falls("#0 1", "w:h=1?1", 1, -1, 1);
        falls("#0 30", "w:h/31", 60, -1, 60);
        falls("#0 30", "w:h/32", -1, -1, -1);
        falls("#0 30", "w:h>30?1", 60, -1, 60);
        falls("#0 30", "w:h>31?1", -1, -1, -1);
        falls("#0 1 a/#0 a 1/#0 a 1 b/#0 b 1", "w:h=60?k-4", 60, 60, -1);
    }

    // "each BUBBLE not LOST loses WORTH of its length, 0 at least"
    private static void losesZeroAtLeast() {
        aged("#0 9", "w:0-1", 0, 9, 9, 9);
        aged("#0 9", "w:0-9999*9999", 0, 9, 9, 9);
        aged("#0 9", "w:0", 0, 9, 9, 9);
        aged("#0 9", "w:1", 0, 9, 8, 7);
        aged("#0 9", "w:l=0?1", 0, 9, 9, 9);
        aged("#0 30", "w:2-h", 0, 30, 29, 29, 29, 29);
    }

    // "and no more than it has"
    private static void losesNoMoreThanItHas() {
        aged("#0 9/#0 10/#0 11", "w:10", 0, 9, 0, 0);
        aged("#0 9/#0 10/#0 11", "w:10", 1, 10, 0, 0);
        aged("#0 9/#0 10/#0 11", "w:10", 2, 11, 1, 0);
        aged("#0 9", "w:9999*9999", 0, 9, 0, 0);
        aged("#0 9", "w:l", 0, 9, 0, 0);
        aged("#0 9", "w:l-1", 0, 9, 1, 1, 1);
        aged("#0 9", "w:l+1", 0, 9, 0, 0);
    }

    // "then those with nothing left are LOST"; "(0: LOST)"
    private static void zeroLengthIsLost() {
        aged("#0 2/#0 3", "w:1", 0, 2, 1, 0, 0, 0);
        aged("#0 2/#0 3", "w:1", 1, 3, 2, 1, 0, 0);
        falls("#0 2/#0 3", "w:1", 2, 1, 3);
        aged("#0 3", "w:h=1?3;w:0-5", 0, 3, 0, 0, 0);
    }

    // "all as the hour began"; "l its length"
    private static void lettersAsTheHourBegan() {
        aged("#0 30", "w:l/2", 0, 30, 15, 8, 4, 2, 1, 1, 1);
        aged("#0 1 a/#0 a 9", "w:k", 0, 1, 0, 0);
        aged("#0 1 a/#0 a 9", "w:k", 1, 9, 6, 4, 2, 0);
        aged("#0 a 9/#0 1 a", "w:k", 0, 9, 6, 4, 2, 0);
        aged("#0 1 a/#0 1 a/#0 9 a", "w:k", 2, 9, 5, 3, 1, 0);
        aged("#0 5 a/#0 5 a/#0 30 a", "w:l=5?0;w:k", 2, 30, 26, 22, 18);
        aged("#0 12", "w:l>10?1;w:5", 0, 12, 11, 10, 5, 0);
    }

    // "k the ENDS of BUBBLES not LOST"
    private static void endsOfWhatIsNotLost() {
        aged("#0 30", "w:k", 0, 30, 28, 26);
        aged("#0 30 a/#0 1 a/#0 2 a", "w:l<3?1;w:k", 0, 30, 26, 23, 21, 19);
        aged("#0 30 a/#1 a", "w:k", 0, 30, 28, 26);
        aged("#0 1 a 1/#0 a 30/#0 a 30 a", "w:l=1?h;w:k", 2, 30, 24, 20, 16);
    }

    // "at its POINT from and at its POINT to, added"
    private static void endsAtBothPointsAreAdded() {
        aged("#0(30)", "w:k", 0, 30, 26, 22);
        aged("#0 30(30)", "w:k", 0, 30, 26, 22);
        aged("#0 30(30)", "w:k", 1, 30, 24, 18);
        aged("#0 a 30 b/#0 a 30 b", "w:k", 0, 30, 26, 22);
        aged("#0 a 30 b 30", "w:k", 0, 30, 27, 24);
        aged("#0 a 30/#0 a 30/#0 a 30", "w:k", 1, 30, 26, 22);
        aged("#0 30 a/#0 30 a/#0 30 a", "w:k", 1, 30, 26, 22);
    }

    // "h the hour, 1 the first"
    private static void letterHIsTheHour() {
        aged("#0 30", "w:h", 0, 30, 29, 27, 24, 20, 15, 9, 2, 0, 0);
        aged("#0 30", "w:h*h", 0, 30, 29, 25, 16, 0);
    }

    // "s STRAIN and a AIR of its SORT"
    private static void strainAndAirOfItsSort() {
        aged("#1 30/#2 30/#0 30", "w:s", 0, 30, 27, 24);
        aged("#1 30/#2 30/#0 30", "w:s", 1, 30, 21, 12, 3, 0);
        aged("#1 30/#2 30/#0 30", "w:s", 2, 30, 30, 30);
        aged("#1 30/#2 30/#0 30", "w:a", 0, 30, 10, 0);
        aged("#1 30/#2 30/#0 30", "w:a", 1, 30, 25, 20);
        aged("#1 30/#2 30/#0 30", "w:a", 2, 30, 0, 0);
        aged("#0 30/#1 30/#1 a 30", "w:s", 2, 30, 27, 24);
    }

    // "and others with them, as by POP"
    private static void othersAreLostAsByPop() {
        aged("#0 1 30 30", "w:1", 2, 30, 0, 0);
        aged("#0 30 30 1", "w:1", 0, 30, 0, 0);
        aged("#0 30 1 30", "w:1", 0, 30, 0, 0);
        aged("#0 1 a 30/#0 a 30", "w:1", 1, 30, 0, 0);
        aged("#0 1 a 30/#0 a 30", "w:1", 2, 30, 29, 28);
        aged("#0 1 a 30/#0 a 30/#0 a 30", "w:1", 1, 30, 29, 28);
        aged("#0 1 a 30/#0 a 2/#0 a 30", "w:1", 1, 30, 29, 0);
        aged("#0 1 a 30 b 30/#0 a 30/#0 b 30", "w:1", 2, 30, 0);
        aged("#0 1 a 30 b 30/#0 a 30/#0 b 30/#0 b 30", "w:1", 2, 30, 29, 28);
        falls("#0 1 30 30", "w:1", 1, -1, 1);
    }

    /** What is lost with others counts as there until the hour ends. */
    private static void othersAreLostAtTheHoursEnd() {
        aged("#0 1 a 9/#0 a 9", "w:k-2", 2, 9, 7, 7, 7);
        aged("#0 3 a 9 9/#0 a 9/#0 a 9", "w:l=3?3;w:l<9?0;w:k-5", 2, 9, 9, 9);
        falls("#0 2 2/#0 1", "w:1", 1, -1, 2);
    }

    // "(0) something is LOST"
    private static void theFirstHourThatSomethingIsLost() {
        falls("#0 1/#0 30", "w:1", 1, -1, 30);
        falls("#0 7/#0 5/#0 9", "w:1", 5, 1, 9);
        falls("#0 5", "w:5", 1, -1, 1);
        falls("#0 5", "w:4", 2, -1, 2);
        falls("#0 5", "w:l-1", -1, -1, -1);
        falls("#0 30", "w:h>30?1;w:0", 60, -1, 60);
    }

    // "(1) FALLS are two or more"
    private static void theFirstHourOfTwoParts() {
        falls("#0 9 a/#0 a 3 b/#0 b 9", "w:1", 3, 3, 9);
        falls("#0 9 a/#0 a 9 b/#0 b 3", "w:1", 3, -1, 9);
        falls("#0 9 a/#0 a 9 b/#0 b 9", "w:1", 9, -1, 9);
        falls("#0 9/#0 9", "w:0", -1, 1, -1);
        falls("#0 9/#0 9", "w:1", 9, 1, 9);
        falls("#0 9/#0 a", "w:1", 9, -1, 9);
        falls("#0 5 a/#0 a 1 b/#0 b 5/#0 a 3 b", "w:1", 1, 3, 5);
        falls("#0 1/#0 1", "w:1", 1, -1, 1);
        falls("#0 1/#0 1/#0 9", "w:1", 1, -1, 9);
        falls("#0 1/#0 9/#0 9", "w:1", 1, 1, 9);
    }

    // "(2) all is LOST"
    private static void theFirstHourThatAllIsLost() {
        falls("#0 4/#0 6/#0 5", "w:1", 4, 1, 6);
        falls("#0 4/#0 6/#0 5", "w:l>1?1", -1, 1, -1);
        falls("#0 4/#1 6", "w:s>0?1", 6, 1, -1);
        falls("#0" + " 1".repeat(24), "w:h=60?l", 60, -1, 60);
        falls("#0" + "(2)".repeat(24), "w:1", 2, -1, 2);
    }

    // "NONE: none, no such ones, a FIGURE without BUBBLES."
    private static void aFigureWithoutBubbles() {
        falls("#0 a", "w:1", -1, -1, -1);
        falls("#0 a/#1 b", "w:0", -1, -1, -1);
        Twins.none("falls of a figure without bubbles", Twins::busy, x -> x.falls(2, 0, 2));
    }

    private static void eachFigureAndRuleForItself() {
        BalloonStall y = stall("#0 9", "w:1");
        Checks.figure(y, "#0 5/#0 1");
        Checks.figure(y, "#0 1/#0 9");
        Checks.figure(y, "#0 1 9");
        int[] behind3 = {6, 2, 0, 0};
        for (int i = 0; i < 16; i++) {
            int f = i % 4 ^ i / 4;
            Checks.due("aged(" + f + ", 0, 3, 0)", y.aged(f, 0, 3, 0), behind3[f]);
            Checks.due("falls(" + f + ", 0, 0)", y.falls(f, 0, 0), f == 0 ? 9 : 1);
        }
        Checks.due("aged(2, 0, 1, 1)", y.aged(2, 0, 1, 1), 8);
        Checks.due("aged(3, 0, 1, 1)", y.aged(3, 0, 1, 1), 0);
        BalloonStall x = stall("#0 30 30", "w:1");
        Checks.figure(x, "#0 20");
        Checks.rule(x, "w:2");
        for (int again = 0; again < 2; again++) {
            Checks.due("aged(0, 0, 30, 1)", x.aged(0, 0, 30, 1), 0);
            Checks.due("aged(0, 0, 29, 1)", x.aged(0, 0, 29, 1), 1);
            Checks.due("aged(0, 1, 14, 1)", x.aged(0, 1, 14, 1), 2);
            Checks.due("falls(1, 0, 2)", x.falls(1, 0, 2), 20);
            Checks.due("aged(1, 0, 0, 0)", x.aged(1, 0, 0, 0), 20);
            Checks.due("falls(1, 1, 2)", x.falls(1, 1, 2), 10);
            Checks.due("falls(0, 1, 2)", x.falls(0, 1, 2), 15);
            Checks.due("aged(0, 2, 1, 0)", x.aged(0, 2, 1, 0), -1);
            Checks.due("falls(2, 0, 0)", x.falls(2, 0, 0), -1);
        }
        Checks.due("the figure stays", x.bubble(0, 1, 0), 30);
        x.plain(0);
        Checks.due("aged of its plain", x.aged(2, 0, 60, 0), 0);
        Checks.due("aged of its plain", x.aged(2, 0, 59, 0), 1);
        Checks.rule(x, "w:3");
        Checks.due("aged by a rule that came later", x.aged(1, 2, 6, 0), 2);
    }
}
