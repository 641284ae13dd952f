/** Promises 1 to 4 and 36: a new object, sorts, the tape, counts. */
public final class TapeTest {
    public static void main(String[] args) {
        newObject();
        sorts();
        feeding();
        ending();
        Checks.close("TapeTest");
    }

    private static void newObject() {
        BalloonStall x = new BalloonStall();
        for (int what = 0; what < 5; what++) {
            Checks.due("count(" + what + ") when new", x.count(what), 0);
        }
        Checks.due("count(-1)", x.count(-1), -1);
        Checks.due("count(5)", x.count(5), -1);
        Checks.due("count(max)", x.count(Integer.MAX_VALUE), -1);
    }

    private static void sorts() {
        BalloonStall x = new BalloonStall();
        int[][] wrong = {{4, 0, 0}, {201, 0, 0}, {5, -1, 0}, {5, 10, 0}, {5, 0, -1}, {5, 0, 100}};
        for (int[] w : wrong) {
            Checks.due("sort out of bounds", x.sort(w[0], w[1], w[2]), -1);
        }
        Checks.due("least sort", x.sort(5, 0, 0), 0);
        Checks.due("greatest sort", x.sort(200, 9, 99), 1);
        for (int i = 2; i < 6; i++) {
            Checks.due("sort " + i, x.sort(50, 1, 1), i);
        }
        Checks.due("seventh sort", x.sort(50, 1, 1), -1);
        Checks.due("count(0)", x.count(0), 6);
    }

    private static void feeding() {
        BalloonStall x = new BalloonStall();
        Checks.due("feed nothing", x.feed(0, 0, 0, 0, 0), 0);
        Checks.due("zero bytes left out", x.feed(0x41000042, 0x00430000, -1, 0, 0x00000044), 8);
        Checks.due("feed to 28", x.feed(-1, -1, -1, -1, -1), 28);
        for (int length = 48; length <= 188; length += 20) {
            Checks.due("feed to " + length, x.feed(-1, -1, -1, -1, -1), length);
        }
        Checks.due("feed beyond 200", x.feed(-1, -1, -1, 1, 0), -1);
        Checks.due("count(3) behind what was refused", x.count(3), 188);
        Checks.due("feed to 200", x.feed(-1, -1, -1, 0, 0), 200);
        Checks.due("feed one more", x.feed(0, 0, 0, 0, 1), -1);
        Checks.due("feed nothing more", x.feed(0, 0, 0, 0, 0), 200);
        order();
    }

    private static void order() {
        BalloonStall x = Checks.withSorts();
        x.feed(0x00230030, 0x35000000, 0x00000061, 0x37000000, 0x62);
        Checks.due("bytes in their order are #05a7b", x.figure(), 0);
        Checks.due("first bubble", x.bubble(0, 0, 0), 5);
        Checks.due("second bubble", x.bubble(0, 1, 0), 7);
    }

    private static void ending() {
        BalloonStall x = Checks.withSorts();
        Checks.due("end(0) of nothing", x.end(0), true);
        Checks.due("end(1) of nothing", x.end(1), false);
        Checks.feed(x, "#0 5 7 x");
        Checks.due("end(-1)", x.end(-1), false);
        Checks.due("end(9)", x.end(9), false);
        Checks.due("end(8)", x.end(8), true);
        Checks.due("fault of all", x.fault(0), 7);
        Checks.due("end(4)", x.end(4), true);
        Checks.due("count(3)", x.count(3), 4);
        Checks.due("first bytes alone", x.fault(0), -1);
        Checks.due("more behind them", Checks.feed(x, "x"), 5);
        Checks.due("fault of these", x.fault(0), 4);
    }
}
