/** The boundary cases of promise 33, sentence by sentence: what rules are worth. */
public final class EdgeWorthTest {
    private static final int MOST = Integer.MAX_VALUE;
    private static final int LEAST = Integer.MIN_VALUE;

    public static void main(String[] args) {
        noSuchRule();
        numbersHaveFourDigitsAtMost();
        theFirstClauseWhoseConditionHolds();
        zeroWithout();
        heldWithinAMillionBehindPlus();
        heldWithinAMillionBehindMinus();
        heldWithinAMillionBehindTimes();
        heldWithinAMillionBehindEachSign();
        lettersOfAnySize();
        divisionCutsTowards0();
        divisionBy0Gives0();
        divisionOfTheLeast();
        signsFromTheLeft();
        comparedOnBothSides();
        truthsTakeTurns();
        notTurnsOneUnit();
        Checks.close("EdgeWorthTest");
    }

    private static void worth(String text, int want, int... letters) {
        BalloonStall x = new BalloonStall();
        Checks.due("rule " + text, Checks.rule(x, text), 0);
        int[] v = java.util.Arrays.copyOf(letters, 5);
        Checks.due("worth of " + text + " by " + java.util.Arrays.toString(v),
            x.worth(0, v[0], v[1], v[2], v[3], v[4]), want);
    }

    // "NoSuchElementException: no such RULE."
    private static void noSuchRule() {
        for (int rule : new int[] {LEAST, -1, 2, 5, 6, MOST}) {
            Twins.noSuch("worth(" + rule + ", ..)", Twins::busy, x -> x.worth(rule, 1, 2, 3, 4, 5));
        }
        Checks.dueNoSuch("worth without rules", () -> new BalloonStall().worth(0, 0, 0, 0, 0, 0));
        Checks.due("worth of the first", Twins.busy().worth(0, 1, 2, 3, 4, 5), 2);
        Checks.due("worth of the last", Twins.busy().worth(1, 10, 7, 3, 4, 5), 14);
    }

    private static void numbersHaveFourDigitsAtMost() {
        worth("w:0", 0);
        worth("w:9999", 9999);
        worth("w:0000", 0);
        worth("w:0042", 42);
        worth("w:9999+1", 10000);
    }

    // "the SUM of the first CLAUSE whose CONDITION holds (or has none)"
    private static void theFirstClauseWhoseConditionHolds() {
        String text = "w:l=1?10;w:l<3?20;w:l=4?30;w:40;w:l=9?50";
        worth(text, 10, 1);
        worth(text, 20, 2);
        worth(text, 20, 0);
        worth(text, 40, 3);
        worth(text, 30, 4);
        worth(text, 40, 9);
        worth("w:1;w:2;w:3", 1);
    }

    // "0 without."
    private static void zeroWithout() {
        worth("w:l=1?5", 0);
        worth("w:l=1?5", 5, 1);
        worth("w:l=1?5;w:l=2?6", 0, 3);
        worth("w:l=1?5;w:l=2?6", 6, 2);
        worth("w:l=0?1-1;w:7", 0);
        worth("w:1=2?1" + ";w:1=2?1".repeat(23), 0);
    }

    // "Behind each sign numbers are within -1,000,000 .. 1,000,000"
    private static void heldWithinAMillionBehindPlus() {
        worth("w:l+1", 999_999, 999_998);
        worth("w:l+1", 1_000_000, 999_999);
        worth("w:l+1", 1_000_000, 1_000_000);
        worth("w:l+h", 1_000_000, 500_000, 500_000);
        worth("w:l+h", 1_000_000, 500_000, 500_001);
        worth("w:l+h", -1_000_000, -500_000, -500_000);
        worth("w:l+h", -1_000_000, -500_000, -500_001);
        worth("w:l+h", -999_999, -500_000, -499_999);
        worth("w:l+h", 1_000_000, MOST, MOST);
        worth("w:l+h", -1_000_000, LEAST, LEAST);
        worth("w:l+h", -1, LEAST, MOST);
        worth("w:1000*999+9999", 1_000_000);
        worth("w:100*9900+9999", 999_999);
    }

    private static void heldWithinAMillionBehindMinus() {
        worth("w:l-1", -999_999, -999_998);
        worth("w:l-1", -1_000_000, -999_999);
        worth("w:l-1", -1_000_000, -1_000_000);
        worth("w:l-h", 1_000_000, 500_000, -500_000);
        worth("w:l-h", 1_000_000, 500_000, -500_001);
        worth("w:l-h", -1_000_000, -500_001, 500_000);
        worth("w:l-h", -1_000_000, LEAST, MOST);
        worth("w:l-h", 1_000_000, MOST, LEAST);
        worth("w:l-h", 0, LEAST, LEAST);
        worth("w:0-h", 1_000_000, 0, LEAST);
        worth("w:0-h", -1_000_000, 0, MOST);
    }

    private static void heldWithinAMillionBehindTimes() {
        worth("w:1000*1000", 1_000_000);
        worth("w:999*1001", 999_999);
        worth("w:1001*1000", 1_000_000);
        worth("w:[0-1000]*1000", -1_000_000);
        worth("w:[0-999]*1001", -999_999);
        worth("w:[0-1001]*1000", -1_000_000);
        worth("w:9999*9999*9999", 1_000_000);
        worth("w:l*h", 1_000_000, MOST, MOST);
        worth("w:l*h", 1_000_000, LEAST, LEAST);
        worth("w:l*h", -1_000_000, LEAST, MOST);
        worth("w:l*h", 1_000_000, 65536, 65536);
        worth("w:l*h", -1_000_000, 65536, -65536);
        worth("w:l*h", 0, LEAST, 0);
    }

    private static void heldWithinAMillionBehindEachSign() {
        worth("w:l+1-1", 999_999, 1_000_000);
        worth("w:l+5-1", 999_999, 999_998);
        worth("w:l-5+1", -999_999, -999_998);
        worth("w:1001*1000-1", 999_999);
        worth("w:1001*1000/1000", 1000);
        worth("w:9999*9999/9999", 100);
        worth("w:[l+h]-[l+h]", 0, 999_999, 999_999);
        worth("w:[1001*1000]-[1000*1000]", 0);
        worth("w:1001*1000=1000*1000?1", 1);
        worth("w:1001*1000>1000*1000?1", 0);
        worth("w:0-1001*1000=0-1000*1000?1", 1);
        worth("w:9999*9999<1000*1000+1?1;w:2", 2);
    }

    // Only what signs give is held, not the letters themselves.
    private static void lettersOfAnySize() {
        worth("w:l", 1_000_001, 1_000_001);
        worth("w:l", MOST, MOST);
        worth("w:l", LEAST, LEAST);
        worth("w:[l]", MOST, MOST);
        worth("w:l>h?1", 1, 1_000_002, 1_000_001);
        worth("w:l>h?1", 1, MOST, LEAST);
        worth("w:l<h?1", 1, LEAST, MOST);
        worth("w:l=h?1", 0, 1_000_002, 1_000_001);
        worth("w:l+0", 1_000_000, 1_000_001);
        worth("w:l-0", -1_000_000, -1_000_001);
        worth("w:l*1", 1_000_000, 1_000_001);
        worth("w:l/1", 1_000_000, 1_000_001);
        worth("w:l/1", -1_000_000, -1_000_001);
        worth("w:l/2", 1_000_000, 2_000_001);
        worth("w:l/2", 999_999, 1_999_999);
    }

    // "/ cuts towards 0"
    private static void divisionCutsTowards0() {
        int[][] want = {{7, 2, 3}, {-7, 2, -3}, {7, -2, -3}, {-7, -2, 3}, {6, 2, 3}, {-6, 2, -3}, {1, 2, 0}, {-1, 2, 0},
            {1, -2, 0}, {5, 5, 1}, {-5, 5, -1}, {4, 5, 0}, {0, 5, 0}, {0, -5, 0}, {999, 1000, 0}, {-999, 1000, 0},
            {1000, 1000, 1}, {1001, 1000, 1}, {-1999, 1000, -1}, {MOST, MOST, 1}, {LEAST, MOST, -1}, {MOST, LEAST, 0}};
        for (int[] w : want) {
            worth("w:l/h", w[2], w[0], w[1]);
        }
    }

    // "by 0 gives 0"
    private static void divisionBy0Gives0() {
        worth("w:5/0", 0);
        worth("w:0/0", 0);
        worth("w:l/h", 0, MOST, 0);
        worth("w:l/h", 0, LEAST, 0);
        worth("w:5/[l-7]", 0, 7);
        worth("w:5/[l-7]", 5, 8);
        worth("w:5/[l-7]", -5, 6);
        worth("w:1+5/0", 1);
        worth("w:5/0*3+2", 2);
        worth("w:5/[1/2]", 0);
        worth("w:5/0=0?1", 1);
        worth("w:5/0/0", 0);
    }

    private static void divisionOfTheLeast() {
        worth("w:l/h", 1_000_000, LEAST, -1);
        worth("w:l/h", -1_000_000, LEAST, 1);
        worth("w:l/h", 1, LEAST, LEAST);
        worth("w:l/[0-1]", 1_000_000, LEAST);
    }

    // "TERMS with + or - between"; "ATOMS with * or / between"
    private static void signsFromTheLeft() {
        worth("w:9-3-2", 4);
        worth("w:9-3+2", 8);
        worth("w:9-[3+2]", 4);
        worth("w:100/7/2", 7);
        worth("w:100/7*2", 28);
        worth("w:100*7/2", 350);
        worth("w:7/2*2", 6);
        worth("w:2+3*4", 14);
        worth("w:2*3+4", 10);
        worth("w:[2+3]*4", 20);
        worth("w:2-3*4-5", -15);
        worth("w:l+h*k-s/a", 6, 1, 2, 3, 9, 5);
    }

    // "SUM, one of = < >, SUM"
    private static void comparedOnBothSides() {
        for (int l = -1; l <= 1; l++) {
            worth("w:l=0?1;w:2", l == 0 ? 1 : 2, l);
            worth("w:l<0?1;w:2", l < 0 ? 1 : 2, l);
            worth("w:l>0?1;w:2", l > 0 ? 1 : 2, l);
            worth("w:0<l?1;w:2", l > 0 ? 1 : 2, l);
        }
        worth("w:l+1<h*2?1;w:2", 1, 2, 2);
        worth("w:l+1<h*2?1;w:2", 2, 3, 2);
    }

    /** Each of the three signs, once where it does not hold and once where it does. */
    private static final String[][] TRUTHS = {{"1=2", "1=1"}, {"2<2", "1<2"}, {"2>2", "2>1"}};

    // "TRUTHS with | between"; "UNITS with & between"
    private static void truthsTakeTurns() {
        for (int i = 0; i < 8; i++) {
            int a = i & 1;
            int b = i >> 1 & 1;
            int c = i >> 2;
            String x = TRUTHS[0][a];
            String y = TRUTHS[1][b];
            String z = TRUTHS[2][c];
            worth("w:" + x + "|" + y + "&" + z + "?1", a | b & c);
            worth("w:" + x + "&" + y + "|" + z + "?1", a & b | c);
            worth("w:(" + x + "|" + y + ")&" + z + "?1", (a | b) & c);
            worth("w:" + x + "&(" + y + "|" + z + ")?1", a & (b | c));
            worth("w:" + x + "&" + y + "&" + z + "?1", a & b & c);
            worth("w:" + x + "|" + y + "|" + z + "?1", a | b | c);
        }
    }

    // "UNIT: ! UNIT"
    private static void notTurnsOneUnit() {
        for (int i = 0; i < 4; i++) {
            int a = i & 1;
            int b = i >> 1;
            String x = TRUTHS[1][a];
            String y = TRUTHS[2][b];
            worth("w:!" + x + "?1", 1 - a);
            worth("w:!" + y + "?1", 1 - b);
            worth("w:!!" + x + "?1", a);
            worth("w:!!!!!!" + x + "?1", a);
            worth("w:!!!!!" + x + "?1", 1 - a);
            worth("w:!" + x + "&" + y + "?1", (1 - a) & b);
            worth("w:!" + x + "|" + y + "?1", 1 - a | b);
            worth("w:!(" + x + "&" + y + ")?1", 1 - (a & b));
            worth("w:!(" + x + "|" + y + ")?1", 1 - (a | b));
            worth("w:" + x + "&!" + y + "?1", a & 1 - b);
            worth("w:" + x + "|!(" + y + ")?1", a | 1 - b);
        }
    }
}
