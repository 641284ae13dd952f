/** Promises 27 to 32: the stall's stock, pace and guests, and how runs go. */
public final class StallTest {
    public static void main(String[] args) {
        stock();
        pace();
        comes();
        newRun();
        left();
        turned();
        popping();
        unfinished();
        latestRun();
        Checks.close("StallTest");
    }

    private static BalloonStall withFigures() {
        BalloonStall x = Checks.withSorts();
        Checks.figure(x, "#0 5(3 3)4");
        Checks.figure(x, "#0 5/#2 a/#0 5 5");
        Checks.figure(x, "#1 5");
        Checks.figure(x, "#2 5/#2 5 5");
        return x;
    }

    private static void went(BalloonStall x, int guest, int... want) {
        for (int what = 0; what < want.length; what++) {
            Checks.due("guest(" + guest + ", " + what + ")", x.guest(guest, what), want[what]);
        }
        Checks.dueNoSuch("guest(.., 4)", () -> x.guest(guest, 4));
        Checks.dueNoSuch("guest(.., -1)", () -> x.guest(guest, -1));
    }

    private static void stock() {
        BalloonStall x = Checks.withSorts();
        Checks.due("stock(0, 0)", x.stock(0, 0), true);
        Checks.due("stock(2, 99)", x.stock(2, 99), true);
        Checks.due("stock(2, 100)", x.stock(2, 100), false);
        Checks.due("stock(2, -1)", x.stock(2, -1), false);
        Checks.due("stock(3, 1)", x.stock(3, 1), false);
        Checks.due("stock(-1, 1)", x.stock(-1, 1), false);
        x = withFigures();
        x.comes(0, 0, 0);
        Checks.due("run without stock", x.run(0), 0);
        went(x, 0, 2, 0, 0, 0);
        x.stock(0, 1);
        x.stock(0, 100);
        Checks.due("run with stock", x.run(0), 1);
        Checks.due("run with the stock as told", x.run(0), 1);
        x.stock(0, 0);
        Checks.due("run with none again", x.run(0), 0);
    }

    private static void pace() {
        BalloonStall x = withFigures();
        x.stock(0, 9);
        x.stock(2, 9);
        x.comes(7, 0, 0);
        x.run(0);
        went(x, 0, 0, 7, 11, 1);
        int[][] wrong = {{0, 0}, {10, 0}, {1, -1}, {1, 10}, {-1, 5}};
        for (int[] w : wrong) {
            Checks.due("pace" + java.util.Arrays.toString(w), x.pace(w[0], w[1]), false);
        }
        x.run(0);
        went(x, 0, 0, 7, 11, 1);
        Checks.due("pace(9, 9)", x.pace(9, 9), true);
        x.run(0);
        went(x, 0, 0, 7, 52, 1);
        Checks.due("pace(1, 0)", x.pace(1, 0), true);
    }

    private static void comes() {
        BalloonStall x = withFigures();
        int[][] wrong = {{-1, 0, 0}, {10000, 0, 0}, {0, 4, 0}, {0, -1, 0}, {0, 0, -1}, {0, 0, 1000}};
        for (int[] w : wrong) {
            Checks.due("comes" + java.util.Arrays.toString(w), x.comes(w[0], w[1], w[2]), -1);
        }
        Checks.due("close() of none", x.close(), 0);
        Checks.due("comes(5, 0, 999)", x.comes(5, 0, 999), 0);
        Checks.due("comes(4, 0, 0)", x.comes(4, 0, 0), -1);
        Checks.due("comes(5, 3, 0)", x.comes(5, 3, 0), 1);
        for (int i = 2; i < 30; i++) {
            Checks.due("guest " + i, x.comes(9999, 0, 0), i);
        }
        Checks.due("a 31st guest", x.comes(9999, 0, 0), -1);
        Checks.due("count(2)", x.count(2), 30);
        Checks.due("close()", x.close(), 30);
        Checks.due("count(2)", x.count(2), 0);
        Checks.due("comes(0, 0, 0) behind close", x.comes(0, 0, 0), 0);
    }

    private static void newRun() {
        BalloonStall x = withFigures();
        Checks.dueNoSuch("guest(0, 0) ahead of a run", () -> x.guest(0, 0));
        Checks.due("run without guests", x.run(5), 0);
        Checks.dueNoSuch("guest(0, 0) of nobody", () -> x.guest(0, 0));
        x.comes(0, 0, 0);
        Checks.dueNoSuch("guest(0, 0) ahead of its run", () -> x.guest(0, 0));
        Checks.dueNoSuch("guest(-1, 0)", () -> x.guest(-1, 0));
    }

    private static void left() {
        BalloonStall x = withFigures();
        x.stock(0, 99);
        x.comes(0, 0, 0);
        x.comes(1, 0, 2);
        x.comes(1, 0, 3);
        x.comes(100, 0, 0);
        x.comes(100, 0, 3);
        x.comes(104, 0, 0);
        Checks.due("run", x.run(0), 4);
        went(x, 0, 0, 0, 4, 1);
        went(x, 1, 1, 4, 4, 0);
        went(x, 2, 0, 4, 8, 1);
        went(x, 3, 0, 100, 104, 1);
        went(x, 4, 1, 104, 104, 0);
        went(x, 5, 0, 104, 108, 1);
    }

    private static void turned() {
        BalloonStall x = withFigures();
        x.stock(0, 3);
        x.comes(0, 1, 0);
        x.comes(3, 0, 0);
        x.comes(3, 0, 9);
        x.comes(10, 0, 9);
        x.comes(20, 0, 9);
        Checks.due("run", x.run(0), 3);
        went(x, 0, 2, 0, 0, 0);
        went(x, 1, 0, 3, 7, 1);
        went(x, 2, 0, 7, 11, 1);
        went(x, 3, 0, 11, 15, 1);
        went(x, 4, 2, 20, 20, 0);
        x.stock(2, 99);
        x.pace(1, 2);
        x.run(0);
        Checks.due("taken, those that pop too, is at least three", x.guest(0, 3) >= 3, true);
        Checks.due("ticks of balloons without bubbles", x.guest(0, 2), (x.guest(0, 3) - 2) * 2 + 3 + 4);
    }

    /** The chances here are reckoned with numbers that don't go round. */
    private static int takenFor(java.math.BigInteger[] state, int chance) {
        java.math.BigInteger round = java.math.BigInteger.ONE.shiftLeft(64);
        for (int taken = 1; ; taken++) {
            state[0] = state[0].multiply(new java.math.BigInteger("6364136223846793005"))
                .add(new java.math.BigInteger("1442695040888963407")).mod(round);
            if (state[0].shiftRight(33).intValueExact() % 100 >= chance) {
                return taken;
            }
        }
    }

    private static void popping() {
        long[] seeds = {0, 1, -1, Long.MIN_VALUE, Long.MAX_VALUE, 123456789012345L};
        for (long seed : seeds) {
            BalloonStall x = withFigures();
            x.stock(0, 99);
            x.stock(1, 99);
            x.pace(2, 1);
            java.math.BigInteger[] state = {java.math.BigInteger.valueOf(seed).mod(java.math.BigInteger.ONE.shiftLeft(64))};
            for (int i = 0; i < 10; i++) {
                x.comes(0, i % 3 == 0 ? 0 : 2, 999);
            }
            Checks.due("run(" + seed + ")", x.run(seed), 10);
            int free = 0;
            for (int i = 0; i < 10; i++) {
                int taken = takenFor(state, i % 3 == 0 ? 0 : 50);
                int ends = free + taken * (i % 3 == 0 ? 9 : 3);
                went(x, i, 0, free, ends, taken);
                free = ends;
            }
        }
    }

    private static void unfinished() {
        BalloonStall x = new BalloonStall();
        x.sort(100, 0, 99);
        x.sort(100, 0, 0);
        Checks.figure(x, "#1 1/#0 3/#1 1");
        Checks.figure(x, "#1 1");
        x.stock(0, 4);
        x.stock(1, 3);
        x.pace(5, 2);
        x.comes(0, 0, 0);
        x.comes(1, 1, 40);
        x.comes(1, 0, 999);
        java.math.BigInteger[] state = {java.math.BigInteger.valueOf(77)};
        takenFor(state, 0);
        Checks.due("this seed pops four at least", takenFor(state, 99) > 4, true);
        Checks.due("run(77)", x.run(77), 1);
        went(x, 0, 3, 0, 35, 5);
        went(x, 1, 0, 35, 42, 1);
        went(x, 2, 2, 42, 42, 0);
    }

    private static void latestRun() {
        BalloonStall x = withFigures();
        x.stock(0, 1);
        x.comes(0, 0, 0);
        x.run(1);
        x.comes(50, 0, 0);
        x.stock(0, 0);
        x.pace(9, 9);
        went(x, 0, 0, 0, 4, 1);
        Checks.dueNoSuch("guest(1, 0), not in that run", () -> x.guest(1, 0));
        x.stock(0, 2);
        Checks.due("run(1)", x.run(1), 2);
        went(x, 1, 0, 50, 95, 1);
        Checks.due("close()", x.close(), 2);
        Checks.dueNoSuch("guest(0, 0) behind close", () -> x.guest(0, 0));
        x.comes(3, 0, 0);
        Checks.dueNoSuch("guest(0, 0) behind close, told anew", () -> x.guest(0, 0));
        Checks.due("run(1)", x.run(1), 1);
        went(x, 0, 0, 3, 48, 1);
    }
}
