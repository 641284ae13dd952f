/** Promises 23 to 26: strokes, the fewest balloons that make a figure and their sets, what is made twice. */
public final class MadeTest {
    public static void main(String[] args) {
        strokes();
        made();
        strain();
        chosenSets();
        tooManyBubbles();
        twice();
        Checks.close("MadeTest");
    }

    private static void strokes() {
        BalloonStall x = Checks.withSorts();
        Checks.due("strokes(0)", x.strokes(0), -1);
        strokes(x, "#0 5(3 3)4", 1);
        strokes(x, "#0 a", 0);
        strokes(x, "#0 (1)", 1);
        strokes(x, "#0 5 a/#0 5 a/#0 5 a", 2);
        strokes(x, "#0 5 a/#0 5 a/#0 5 a/#0 5 a/#0 5 a/#0 5 a", 3);
        strokes(x, "#0 1/#0 (1)/#0 a 2 b 3 a/#1 h", 3);
        strokes(x, "#0 a 1 b 1 c 1 d 1 a 1 c/#0 b 1 d", 2);
        strokes(x, "#0 1 2/#0 a 3", 2);
        Checks.due("strokes(-1)", x.strokes(-1), -1);
    }

    private static void strokes(BalloonStall x, String text, int want) {
        Checks.due("strokes of " + text, x.strokes(Checks.figure(x, text)), want);
    }

    private static void made(BalloonStall x, int figure, int sort, int want, int... sets) {
        Checks.due("made(" + figure + ", " + sort + ")", x.made(figure, sort), want);
        for (int i = 0; i < sets.length; i++) {
            Checks.due("set(" + figure + ", " + sort + ", " + i + ")", x.set(figure, sort, i), sets[i]);
        }
        Checks.due("the set behind the last", x.set(figure, sort, sets.length), -1);
        Checks.due("set -1", x.set(figure, sort, -1), -1);
    }

    private static void made() {
        BalloonStall x = new BalloonStall();
        x.sort(50, 2, 0);
        x.sort(12, 0, 0);
        x.sort(5, 9, 0);
        Checks.figure(x, "#0 5(3 3)4");
        made(x, 0, 0, 1, 15);
        made(x, 0, 1, 2, 1, 14);
        made(x, 0, 2, 4, 1, 2, 4, 8);
        Checks.figure(x, "#0 5 a/#0 5 a/#0 5 a/#0 5 a");
        made(x, 1, 0, 2, 3, 12);
        made(x, 1, 1, 2, 3, 12);
        Checks.figure(x, "#0 6");
        made(x, 2, 2, -1);
        made(x, 2, 1, 1, 1);
        Checks.figure(x, "#2 a/#2 b");
        made(x, 3, 2, 0);
        made(x, 3, 3, -1);
        made(x, 3, -1, -1);
        made(x, 4, 0, -1);
        made(x, -1, 0, -1);
        Checks.figure(x, "#0 6/#0 7");
        made(x, 4, 0, 2, 1, 2);
    }

    private static void strain() {
        BalloonStall x = new BalloonStall();
        x.sort(17, 3, 0);
        x.sort(18, 3, 0);
        Checks.figure(x, "#0 4 4 4");
        made(x, 0, 0, 2, 1, 6);
        made(x, 0, 1, 1, 7);
        Checks.figure(x, "#0 30");
        made(x, 1, 1, -1);
    }

    private static void chosenSets() {
        BalloonStall x = new BalloonStall();
        x.sort(10, 0, 0);
        x.sort(200, 0, 0);
        Checks.figure(x, "#0 3 3 3 3 3");
        made(x, 0, 0, 2, 3, 28);
        Checks.figure(x, "#0 5 5 5 5 5 5");
        made(x, 1, 0, 3, 3, 12, 48);
        Checks.figure(x, "#0 a 1 b/#0 a 1 b/#0 a 1 b/#0 b 1 a/#0 a 1 b");
        made(x, 2, 1, 1, 31);
        Checks.figure(x, "#0 a 9 b 1 c 9 a/#0 c 1 a");
        made(x, 3, 0, 2, 3, 12);
        Checks.figure(x, "#0 a 2 b 2 c 2 d 2 a 2 c/#0 b 2 d");
        made(x, 4, 1, 2, 1, 62);
        Checks.figure(x, "#0 1 a 1/#0 a 1/#0 2 2 2");
        made(x, 5, 1, 3, 1, 6, 56);
    }

    private static void tooManyBubbles() {
        BalloonStall x = Checks.withSorts();
        Checks.figure(x, "#0 1 1 1 1 1 1 1 1 1 1");
        Checks.figure(x, "#0 1 1 1 1 1 1 1 1 1 1 1");
        made(x, 0, 0, 1, 1023);
        made(x, 0, 2, 10, 1, 2, 4, 8, 16, 32, 64, 128, 256, 512);
        made(x, 1, 0, -1);
    }

    private static void twice() {
        BalloonStall x = Checks.withSorts();
        Checks.due("twice(0)", x.twice(0), -1);
        twice(x, "#0 5(3 3)4", 0);
        twice(x, "#0 a", 0);
        twice(x, "#0 1/#0 2", -1);
        twice(x, "#0 (3)", 0);
        twice(x, "#0 7 a/#0 5 a/#0 9 a", 5);
        twice(x, "#0 5 a/#0 6 a/#0 7 a/#0 8 a", 11);
        twice(x, "#0 a 9 b 9 c 9 d 9 a 1 c/#0 b 3 d", 1);
        twice(x, "#0 1 1 1 1 1 1 1 1 1 1 1 1", 0);
        twice(x, "#0 1 1 1 1 1 1 1 1 1 1 1 1 1", -1);
        twice(x, "#0 a 1 b/#0 a 2/#0 a 3/#0 b 4/#0 b 5", 6);
        Checks.due("twice(-1)", x.twice(-1), -1);
        Checks.due("twice(12)", x.twice(12), -1);
    }

    private static void twice(BalloonStall x, String text, int want) {
        Checks.due("twice of " + text, x.twice(Checks.figure(x, text)), want);
    }
}
