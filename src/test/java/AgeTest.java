/** Promises 34 and 35: figures that age by rules till they fall. */
public final class AgeTest {
    public static void main(String[] args) {
        document();
        bounds();
        letters();
        together();
        parts();
        always();
        turnsBetween();
        Checks.close("AgeTest");
    }

    private static void aged(BalloonStall x, int figure, int rule, int bubble, int... want) {
        for (int hour = 0; hour < want.length; hour++) {
            Checks.due("aged(" + figure + ", " + rule + ", " + hour + ", " + bubble + ")",
                x.aged(figure, rule, hour, bubble), want[hour]);
        }
    }

    private static void falls(BalloonStall x, int figure, int rule, int... want) {
        for (int what = 0; what < want.length; what++) {
            Checks.due("falls(" + figure + ", " + rule + ", " + what + ")", x.falls(figure, rule, what), want[what]);
        }
    }

    private static void document() {
        BalloonStall x = Checks.withSorts();
        Checks.figure(x, "#0 5(3 3)4");
        Checks.rule(x, "w:k>2?2;w:1");
        aged(x, 0, 0, 0, 5, 3, 0, 0);
        aged(x, 0, 0, 1, 3, 1, 0, 0);
        falls(x, 0, 0, 2, -1, 2, -1);
    }

    private static void bounds() {
        BalloonStall x = Checks.withSorts();
        Checks.due("aged(0, 0, 0, 0)", x.aged(0, 0, 0, 0), -1);
        Checks.due("falls(0, 0, 0)", x.falls(0, 0, 0), -1);
        Checks.figure(x, "#0 5 6");
        Checks.due("aged without rules", x.aged(0, 0, 0, 0), -1);
        Checks.due("falls without rules", x.falls(0, 0, 0), -1);
        Checks.rule(x, "w:1");
        int[][] wrong = {{1, 0, 0, 0}, {-1, 0, 0, 0}, {0, 1, 0, 0}, {0, -1, 0, 0}, {0, 0, -1, 0}, {0, 0, 61, 0},
            {0, 0, 0, 2}, {0, 0, 0, -1}};
        for (int[] w : wrong) {
            Checks.due("aged" + java.util.Arrays.toString(w), x.aged(w[0], w[1], w[2], w[3]), -1);
        }
        Checks.due("aged(0, 0, 60, 0)", x.aged(0, 0, 60, 0), 0);
        Checks.due("falls(0, 0, -1)", x.falls(0, 0, -1), -1);
        Checks.due("falls(1, 0, 0)", x.falls(1, 0, 0), -1);
        Checks.due("falls(0, 1, 0)", x.falls(0, 1, 0), -1);
        Checks.figure(x, "#0 a");
        falls(x, 1, 0, -1, -1, -1);
    }

    private static void letters() {
        BalloonStall x = Checks.withSorts();
        Checks.figure(x, "#1 30(20)9 a/#2 5 a");
        Checks.rule(x, "w:l/4");
        Checks.rule(x, "w:h");
        Checks.rule(x, "w:k");
        Checks.rule(x, "w:s");
        Checks.rule(x, "w:a");
        Checks.rule(x, "w:0-1");
        aged(x, 0, 0, 0, 30, 23, 18, 14, 11, 9, 7, 6, 5, 4, 3, 3, 3);
        aged(x, 0, 1, 1, 20, 19, 17, 14, 10, 5, 0);
        aged(x, 0, 2, 0, 30, 25, 20, 0);
        aged(x, 0, 2, 1, 20, 12, 4, 0);
        aged(x, 0, 2, 2, 9, 3, 0);
        aged(x, 0, 2, 3, 5, 2, 0);
        aged(x, 0, 3, 0, 30, 27, 24, 21, 18, 15, 12, 0);
        aged(x, 0, 3, 2, 9, 6, 3, 0);
        aged(x, 0, 3, 3, 5, 0);
        aged(x, 0, 4, 0, 30, 0);
        aged(x, 0, 4, 3, 5, 0);
        aged(x, 0, 5, 0, 30, 30, 30);
        falls(x, 0, 5, -1, -1, -1);
    }

    private static void together() {
        BalloonStall x = Checks.withSorts();
        Checks.figure(x, "#0 1 30 30/#0 a 2 b 30/#0 b 30");
        Checks.rule(x, "w:1");
        aged(x, 0, 0, 0, 1, 0, 0);
        aged(x, 0, 0, 1, 30, 0, 0);
        aged(x, 0, 0, 2, 30, 0, 0);
        aged(x, 0, 0, 3, 2, 1, 0);
        aged(x, 0, 0, 4, 30, 29, 0);
        aged(x, 0, 0, 5, 30, 29, 28);
        falls(x, 0, 0, 1, -1, 30);
    }

    private static void parts() {
        BalloonStall x = Checks.withSorts();
        Checks.figure(x, "#0 1/#0 9");
        Checks.figure(x, "#0 9 a 8 b 9/#0 9 a/#0 9 b");
        Checks.rule(x, "w:0");
        Checks.rule(x, "w:1");
        falls(x, 0, 0, -1, 1, -1);
        falls(x, 0, 1, 1, -1, 9);
        falls(x, 1, 0, -1, -1, -1);
        falls(x, 1, 1, 8, 8, 9);
        Checks.figure(x, "#0 9 a/#0 9 a/#0 a 2 b/#0 9 b/#0 9 b");
        falls(x, 2, 1, 2, 2, 9);
    }

    private static void always() {
        BalloonStall x = Checks.withSorts();
        Checks.figure(x, "#0 30 30");
        Checks.rule(x, "w:h=60?99");
        falls(x, 0, 0, 60, -1, 60);
        Checks.due("behind 59 hours", x.aged(0, 0, 59, 1), 30);
        Checks.due("behind 60 hours", x.aged(0, 0, 60, 1), 0);
        Checks.rule(x, "w:h=61?99");
        falls(x, 0, 1, -1, -1, -1);
        x.plain(0);
        Checks.due("a plain figure", x.aged(1, 1, 60, 0), 60);
    }

    /** What is kept of one figure and rule must not answer for another. */
    private static void turnsBetween() {
        BalloonStall x = Checks.withSorts();
        Checks.figure(x, "#0 30 30");
        Checks.figure(x, "#0 20");
        Checks.rule(x, "w:1");
        Checks.rule(x, "w:2");
        Checks.due("aged(0, 0, 10, 0)", x.aged(0, 0, 10, 0), 20);
        Checks.due("aged(0, 1, 10, 0)", x.aged(0, 1, 10, 0), 10);
        Checks.due("aged(1, 1, 3, 0)", x.aged(1, 1, 3, 0), 14);
        Checks.due("aged(1, 0, 3, 0)", x.aged(1, 0, 3, 0), 17);
        Checks.due("aged(1, 0, 1, 0)", x.aged(1, 0, 1, 0), 19);
        Checks.due("aged(0, 0, 30, 1)", x.aged(0, 0, 30, 1), 0);
        Checks.due("aged(0, 0, 29, 1)", x.aged(0, 0, 29, 1), 1);
        Checks.due("figures stay as they are", x.bubble(0, 0, 0), 30);
    }
}
