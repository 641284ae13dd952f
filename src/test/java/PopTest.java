/** Promises 16 to 18: what is lost when a bubble pops, the weakest bubble, two figures added. */
public final class PopTest {
    public static void main(String[] args) {
        popping();
        falling();
        weakest();
        adding();
        addingTooMuch();
        Checks.close("PopTest");
    }

    private static void pop(BalloonStall x, int figure, int bubble, int lost, int falls) {
        String call = "pop(" + figure + ", " + bubble + ", ";
        Checks.due(call + "0)", x.pop(figure, bubble, 0), lost);
        Checks.due(call + "1)", x.pop(figure, bubble, 1), lost < 0 ? -1 : Integer.bitCount(lost));
        Checks.due(call + "2)", x.pop(figure, bubble, 2), falls);
        Checks.due(call + "3)", x.pop(figure, bubble, 3), -1);
        Checks.due(call + "-1)", x.pop(figure, bubble, -1), -1);
    }

    private static void popping() {
        BalloonStall x = Checks.withSorts();
        Checks.figure(x, "#0 5(3 3)4");
        pop(x, 0, 0, 1, 1);
        pop(x, 0, 1, 15, 0);
        pop(x, 0, 2, 15, 0);
        pop(x, 0, 3, 8, 1);
        pop(x, 0, 4, -1, -1);
        pop(x, 0, -1, -1, -1);
        pop(x, 1, 0, -1, -1);
        Checks.figure(x, "#0 1 1 1 1/#0 2");
        pop(x, 1, 0, 15, 1);
        pop(x, 1, 3, 15, 1);
        pop(x, 1, 4, 16, 1);
        Checks.figure(x, "#0 1 a 1/#0 a 1");
        pop(x, 2, 0, 3, 1);
        pop(x, 2, 2, 4, 1);
        Checks.figure(x, "#0 1 a 1/#0 a 1 1/#0 a 1");
        pop(x, 3, 0, 1, 1);
        pop(x, 3, 3, 12, 1);
    }

    private static void falling() {
        BalloonStall x = Checks.withSorts();
        Checks.figure(x, "#0 a 1 b/#0 a 2/#0 a 3/#0 b 4/#0 b 5");
        pop(x, 0, 0, 1, 2);
        pop(x, 0, 1, 2, 1);
        Checks.figure(x, "#0 1/#0 1/#0 1/#0 a");
        pop(x, 1, 1, 2, 2);
        Checks.figure(x, "#0 (1)");
        pop(x, 2, 0, 1, 0);
    }

    private static void weakest() {
        BalloonStall x = Checks.withSorts();
        Checks.due("weakest(0)", x.weakest(0), -1);
        Checks.figure(x, "#0 5(3 3)4");
        Checks.due("weakest(0)", x.weakest(0), 1);
        Checks.figure(x, "#0 1/#0 1 1/#0 1 1");
        Checks.due("weakest(1), the lowest", x.weakest(1), 1);
        Checks.figure(x, "#0 30/#0 1/#0 2");
        Checks.due("weakest(2), each loses one", x.weakest(2), 0);
        Checks.figure(x, "#0 a");
        Checks.due("weakest(3), without bubbles", x.weakest(3), -1);
        Checks.due("weakest(-1)", x.weakest(-1), -1);
    }

    private static void adding() {
        BalloonStall x = Checks.withSorts();
        Checks.figure(x, "#0 5(3 3)4");
        Checks.figure(x, "#2 6 7/#1 8");
        Checks.due("add(0, 1, 2, 1)", x.add(0, 1, 2, 1), 2);
        int[][] want = {{5, 0, 1, 0, 0}, {3, 1, 2, 0, 0}, {3, 2, 1, 0, 0}, {4, 1, 3, 0, 0},
            {6, 4, 2, 1, 2}, {7, 2, 5, 1, 2}, {8, 6, 7, 2, 1}};
        for (int i = 0; i < want.length; i++) {
            for (int what = 0; what < 5; what++) {
                Checks.due("bubble(2, " + i + ", " + what + ")", x.bubble(2, i, what), want[i][what]);
            }
        }
        Checks.due("points", x.many(2, 2), 8);
        Checks.due("ends of the joined point", x.ends(2, 2), 4);
        Checks.due("holds(2, 1), now locked", x.holds(2, 1), 1);
        Checks.due("a figure added to itself", x.add(1, 1, 4, 0), 3);
        Checks.due("from", x.bubble(3, 3, 1), 4);
        Checks.due("to", x.bubble(3, 3, 2), 5);
        int[][] wrong = {{0, 4, 0, 0}, {4, 0, 0, 0}, {-1, 0, 0, 0}, {0, -1, 0, 0}, {0, 1, 4, 0}, {0, 1, -1, 0},
            {0, 1, 0, 5}, {0, 1, 0, -1}};
        for (int[] w : wrong) {
            Checks.due("add" + java.util.Arrays.toString(w), x.add(w[0], w[1], w[2], w[3]), -1);
        }
    }

    private static void addingTooMuch() {
        BalloonStall x = Checks.withSorts();
        Checks.figure(x, "#0 1 1 1 1 1 1 1 1 1 1 1 1");
        Checks.figure(x, "#0 1 1 1 1 1 1 1 1 1 1 1 1 1");
        Checks.figure(x, "#0 a/#0 a/#0 a/#0 a");
        Checks.due("24 bubbles", x.add(0, 0, 0, 0), 3);
        Checks.due("25 bubbles", x.add(0, 1, 0, 0), -1);
        Checks.due("8 balloons", x.add(2, 2, 0, 0), -1);
        Checks.due("6 balloons", x.add(2, 3, 0, 24), 4);
        Checks.due("7 balloons", x.add(4, 2, 0, 0), -1);
        for (int i = 5; i < 12; i++) {
            Checks.due("add again", x.add(0, 0, 12, 12), i);
        }
        Checks.due("a thirteenth figure", x.add(0, 0, 0, 0), -1);
    }
}
