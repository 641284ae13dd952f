/** Promises 8 to 15: what figures are, which balloons burst, hands, twists that hold, plain figures. */
public final class FigureTest {
    public static void main(String[] args) {
        many();
        bubbles();
        names();
        loops();
        bursting();
        hands();
        holding();
        plain();
        plainOddities();
        noSuch();
        Checks.close("FigureTest");
    }

    private static void row(BalloonStall x, int figure, int what, int... want) {
        for (int i = 0; i < want.length; i++) {
            Checks.due("bubble(" + figure + ", " + i + ", " + what + ")", x.bubble(figure, i, what), want[i]);
        }
        Checks.due("bubbles of " + figure, x.many(figure, 1), want.length);
    }

    private static void all(BalloonStall x, int figure, int... want) {
        for (int what = 0; what < want.length; what++) {
            Checks.due("many(" + figure + ", " + what + ")", x.many(figure, what), want[what]);
        }
    }

    private static void many() {
        BalloonStall x = Checks.withSorts();
        Checks.figure(x, "#0 5(3 3)4");
        all(x, 0, 1, 4, 4, 3, 1, 2, -1);
        Checks.figure(x, "#0 a/#1 b/#2 3");
        all(x, 1, 3, 1, 4, 0, 0, 2, -1);
        Checks.figure(x, "#0 (1)");
        all(x, 2, 1, 1, 1, 0, 0, 0, -1);
        Checks.figure(x, "#0 1 1 1/#1 1 1");
        all(x, 3, 2, 5, 7, 3, 3, 4, -1);
        Checks.due("many(0, -1)", x.many(0, -1), -1);
    }

    private static void bubbles() {
        BalloonStall x = Checks.withSorts();
        Checks.figure(x, "#2 5 30 /#1 a/#0 07 1");
        row(x, 0, 0, 5, 30, 7, 1);
        row(x, 0, 1, 0, 1, 4, 5);
        row(x, 0, 2, 1, 2, 5, 6);
        row(x, 0, 3, 0, 0, 2, 2);
        row(x, 0, 4, 2, 2, 0, 0);
    }

    private static void names() {
        BalloonStall x = Checks.withSorts();
        Checks.figure(x, "#0 a 1 b 2 a 3/#1 4 b 5 h/#2 h 6 a");
        row(x, 0, 1, 0, 1, 0, 3, 1, 4);
        row(x, 0, 2, 1, 0, 2, 1, 4, 0);
        Checks.due("points", x.many(0, 2), 5);
        int[] ends = {4, 4, 1, 1, 2};
        for (int p = 0; p < ends.length; p++) {
            Checks.due("ends(0, " + p + ")", x.ends(0, p), ends[p]);
        }
        Checks.figure(x, "#0 1 a b 2 c/#1 b 3 a 4 c");
        row(x, 1, 1, 0, 1, 1, 1);
        row(x, 1, 2, 1, 2, 1, 2);
        Checks.figure(x, "#0 1 2 b/#1 a 3 a/#2 a 4 b");
        row(x, 2, 1, 0, 1, 3, 3);
        row(x, 2, 2, 1, 2, 3, 2);
    }

    private static void loops() {
        BalloonStall x = Checks.withSorts();
        Checks.figure(x, "#0 (1)(2 3)((4)5)");
        row(x, 0, 1, 0, 0, 1, 0, 0);
        row(x, 0, 2, 0, 1, 0, 0, 0);
        Checks.due("ends of a loop's point", x.ends(0, 0), 8);
        Checks.figure(x, "#0 1(2(3 4)5)6");
        row(x, 1, 1, 0, 1, 2, 3, 2, 1);
        row(x, 1, 2, 1, 2, 3, 2, 1, 4);
        Checks.figure(x, "#0 1 a (a)(2 a)");
        row(x, 2, 2, 1, 1);
    }

    private static void bursting() {
        BalloonStall x = Checks.withSorts();
        Checks.figure(x, "#1 7 4 3/#1 7 4 4/#2 6 1/#2 5/#2 4 1/#0 a");
        int[] bursts = {-1, 5, 6, -1, 10, -1, -1};
        int[] rest = {0, 0, 0, 0, 0, 200, -1};
        for (int b = 0; b < bursts.length; b++) {
            Checks.due("bursts(0, " + b + ")", x.bursts(0, b), bursts[b]);
            Checks.due("rest(0, " + b + ")", x.rest(0, b), rest[b]);
        }
        Checks.due("bursts(0, -1)", x.bursts(0, -1), -1);
        Checks.due("rest(0, -1)", x.rest(0, -1), -1);
        Checks.figure(x, "#1 2 3 4/#2 2/#0 30 30 30 30 30 30 20");
        Checks.due("rest with strain", x.rest(1, 0), 5);
        Checks.due("rest of one bubble", x.rest(1, 1), 3);
        Checks.due("bursts with air just enough", x.bursts(1, 2), -1);
        Checks.due("rest with air just enough", x.rest(1, 2), 0);
        Checks.figure(x, "#0 30 30 30 30 30 30 20 1 1");
        Checks.due("bursts at the first bubble too many", x.bursts(2, 0), 7);
    }

    private static void hands() {
        BalloonStall x = Checks.withSorts();
        hands(x, "#0 5", 0);
        hands(x, "#0 a", 0);
        hands(x, "#0 5 5", 1);
        hands(x, "#0 1 1 1 1", 3);
        hands(x, "#0 (1 1 1)(1 1 1)", 4);
        hands(x, "#0 1 1/#0 1 1 1", 3);
        hands(x, "#0 1 1 1 a/#0 a 1 b", 2);
        hands(x, "#0 1 a 1/#0 a 1 1", 1);
        hands(x, "#0 a 1 b 1 c 1/#0 b 1 c 1", 2);
        hands(x, "#0 1 a 1 1 a 1 1", 2);
        hands(x, "#0 1 a (1) 1", 1);
        x = Checks.withSorts();
        hands(x, "#0 5(3 3)4", 2);
        Checks.due("plain", x.plain(0), 1);
        Checks.due("hands of plain", x.hands(1), 0);
        Checks.figure(x, "#0 7");
        Checks.due("add", x.add(0, 2, 0, 0), 3);
        Checks.due("hands of added", x.hands(3), 1);
        Checks.due("hands(4)", x.hands(4), -1);
        Checks.due("hands(-1)", x.hands(-1), -1);
    }

    private static void hands(BalloonStall x, String text, int want) {
        Checks.due("hands of " + text, x.hands(Checks.figure(x, text)), want);
    }

    private static void holding() {
        BalloonStall x = Checks.withSorts();
        Checks.figure(x, "#0 5(3 3)4/#0 a 2 2/#1 a");
        int[] want = {1, 0, 1, -1, 0, -1, -1};
        for (int i = 0; i < want.length; i++) {
            Checks.due("holds(0, " + i + ")", x.holds(0, i), want[i]);
        }
        Checks.due("holds(0, -1)", x.holds(0, -1), -1);
        Checks.due("holds(1, 0)", x.holds(1, 0), -1);
        Checks.figure(x, "#0 1 a 1/#0 a 1");
        Checks.due("a twist held by another balloon", x.holds(1, 0), 1);
    }

    private static void plain() {
        BalloonStall x = Checks.withSorts();
        Checks.figure(x, "#0 5(3 3)4/#2 6 7 8/#1 9 a 2/#1 a 1");
        Checks.due("plain(0)", x.plain(0), 1);
        row(x, 1, 0, 5, 6, 4, 21, 9, 2, 1);
        row(x, 1, 1, 0, 1, 1, 3, 5, 6, 6);
        row(x, 1, 2, 1, 1, 2, 4, 6, 7, 8);
        row(x, 1, 3, 0, 0, 0, 1, 2, 2, 3);
        row(x, 1, 4, 0, 0, 0, 2, 1, 1, 1);
        all(x, 1, 4, 7, 9, 3, 0, 8);
        Checks.due("plain of plain", x.plain(1), 2);
        row(x, 2, 0, 5, 6, 4, 21, 9, 2, 1);
        Checks.due("plain(3)", x.plain(3), -1);
        Checks.due("plain(-1)", x.plain(-1), -1);
        for (int i = 3; i < 12; i++) {
            Checks.due("plain again", x.plain(0), i);
        }
        Checks.due("a thirteenth figure", x.plain(0), -1);
        Checks.due("count(1)", x.count(1), 12);
    }

    private static void plainOddities() {
        BalloonStall x = Checks.withSorts();
        Checks.figure(x, "#0 a 30 30 30 30 a");
        x.plain(0);
        row(x, 1, 0, 120);
        all(x, 1, 1, 1, 1, 0, 0, 0);
        Checks.due("ends of the loop's point", x.ends(1, 0), 2);
        Checks.figure(x, "#1 b/#0 a/#2 1 1");
        x.plain(2);
        all(x, 3, 3, 1, 4, 0, 0, 2);
        row(x, 3, 1, 2);
        Checks.due("bursts of plain", x.bursts(3, 2), -1);
        Checks.due("bursts of what was", x.bursts(2, 2), 1);
    }

    private static void noSuch() {
        BalloonStall x = Checks.withSorts();
        Checks.due("many(0, 0)", x.many(0, 0), -1);
        Checks.dueNoSuch("bubble(0, 0, 0)", () -> x.bubble(0, 0, 0));
        Checks.figure(x, "#0 5 6");
        int[][] wrong = {{0, 2, 0}, {0, -1, 0}, {1, 0, 0}, {-1, 0, 0}, {0, 0, 5}, {0, 0, -1}, {12, 0, 0},
            {Integer.MAX_VALUE, Integer.MIN_VALUE, 0}};
        for (int[] w : wrong) {
            Checks.dueNoSuch("bubble" + java.util.Arrays.toString(w), () -> x.bubble(w[0], w[1], w[2]));
        }
        Checks.due("many(1, 0)", x.many(1, 0), -1);
        Checks.due("many(-1, 0)", x.many(-1, 0), -1);
        Checks.due("ends(0, 3)", x.ends(0, 3), -1);
        Checks.due("ends(0, -1)", x.ends(0, -1), -1);
        Checks.due("ends(1, 0)", x.ends(1, 0), -1);
        Checks.due("bursts(1, 0)", x.bursts(1, 0), -1);
        Checks.due("rest(1, 0)", x.rest(1, 0), -1);
    }
}
