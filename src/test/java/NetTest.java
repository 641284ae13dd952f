/** Promises 19 to 22: figures that are alike, the points that match, ways between points. */
public final class NetTest {
    public static void main(String[] args) {
        alike();
        matching();
        eightPoints();
        regularNets();
        far();
        span();
        Checks.close("NetTest");
    }

    private static void alike() {
        BalloonStall x = Checks.withSorts();
        Checks.figure(x, "#0 1 2 3");
        Checks.figure(x, "#1 3 2/#2 b/#0 a 1 b 2");
        Checks.figure(x, "#0 3 2 1");
        Checks.figure(x, "#0 1 3 2");
        Checks.due("alike(0, 0)", x.alike(0, 0), 1);
        Checks.due("alike(0, 2), the other way round", x.alike(0, 2), 1);
        Checks.due("alike(0, 3)", x.alike(0, 3), 0);
        Checks.due("alike(0, 1)", x.alike(0, 1), 0);
        Checks.figure(x, "#2 b 2 3/#1 b 1");
        Checks.due("alike(0, 4), of other balloons", x.alike(0, 4), 1);
        Checks.figure(x, "#0 1 2 3/#0 a");
        Checks.due("alike(0, 5), one point more", x.alike(0, 5), 0);
        Checks.figure(x, "#0 a/#0 3 2 1");
        Checks.due("alike(5, 6)", x.alike(5, 6), 1);
        Checks.due("alike(7, 0)", x.alike(7, 0), -1);
        Checks.due("alike(0, 7)", x.alike(0, 7), -1);
        Checks.due("alike(-1, 0)", x.alike(-1, 0), -1);
        Checks.figure(x, "#0 a 1 b 2 a 2 b");
        Checks.figure(x, "#0 a 2 b 2 a 1 b");
        Checks.figure(x, "#0 a 1 b 1 a 2 b");
        Checks.due("alike(7, 8)", x.alike(7, 8), 1);
        Checks.due("alike(7, 9), other lengths", x.alike(7, 9), 0);
        Checks.figure(x, "#0 (1) 2");
        Checks.figure(x, "#0 2 (1)");
        Checks.due("alike(10, 11)", x.alike(10, 11), 1);
        Checks.due("match(10, 11, 0)", x.match(10, 11, 0), 1);
        Checks.due("match(10, 11, 1)", x.match(10, 11, 1), 0);
    }

    private static void row(BalloonStall x, int one, int other, int... want) {
        for (int p = 0; p < want.length; p++) {
            Checks.due("match(" + one + ", " + other + ", " + p + ")", x.match(one, other, p), want[p]);
        }
    }

    private static void matching() {
        BalloonStall x = Checks.withSorts();
        Checks.figure(x, "#0 1 2 3");
        Checks.figure(x, "#0 3 2 1");
        Checks.figure(x, "#0 a 1/#0 a 1/#0 a 1");
        Checks.figure(x, "#0 1 a/#0 1 a/#0 1 a");
        Checks.figure(x, "#0 5 5 5");
        row(x, 0, 1, 3, 2, 1, 0, -1);
        row(x, 1, 0, 3, 2, 1, 0);
        row(x, 0, 0, 0, 1, 2, 3);
        row(x, 2, 3, 1, 0, 2, 3);
        row(x, 4, 4, 0, 1, 2, 3);
        row(x, 0, 4, -1, -1, -1, -1);
        Checks.due("match(0, 1, -1)", x.match(0, 1, -1), -1);
        Checks.due("match(5, 1, 0)", x.match(5, 1, 0), -1);
        Checks.due("match(0, 5, 0)", x.match(0, 5, 0), -1);
        Checks.due("match(0, -1, 0)", x.match(0, -1, 0), -1);
        Checks.figure(x, "#0 a/#1 b/#2 c/#0 d/#0 e/#0 f");
        row(x, 5, 5, 0, 1, 2, 3, 4, 5);
        Checks.figure(x, "#0 a 1 b 1 c 1 d 1 e 1 a");
        Checks.figure(x, "#0 a 1 c 1 e 1 b 1 d 1 a/#0 b");
        row(x, 6, 7, 0, 1, 2, 3, 4);
        Checks.figure(x, "#0 1 1/#0 2");
        Checks.figure(x, "#0 2/#0 1 1");
        row(x, 8, 9, 2, 3, 4, 0, 1);
    }

    private static void eightPoints() {
        BalloonStall x = Checks.withSorts();
        Checks.figure(x, "#0 1 1 1 1 1 1 1");
        Checks.figure(x, "#0 1 1 1 1 1 1 1 1");
        Checks.due("alike of eight points", x.alike(0, 0), 1);
        row(x, 0, 0, 0, 1, 2, 3, 4, 5, 6, 7, -1);
        Checks.due("alike of nine", x.alike(1, 1), -1);
        Checks.due("alike of eight and nine", x.alike(0, 1), -1);
        Checks.due("alike of nine and eight", x.alike(1, 0), -1);
        Checks.due("match of nine", x.match(1, 1, 0), -1);
    }

    /** Nets that can't be told apart by the ends of their points. */
    private static void regularNets() {
        BalloonStall x = Checks.withSorts();
        Checks.figure(x, "#0 a 1 b 1 c 1 d 1 e 1 f 1 g 1 h 1 a/#0 a 1 e/#0 b 1 f/#0 c 1 g/#0 d 1 h");
        Checks.figure(x, "#0 a 1 b 1 c 1 d 1 e 1 f 1 g 1 h 1 a/#0 a 1 d/#0 b 1 g/#0 c 1 f/#0 e 1 h");
        Checks.figure(x, "#0 a 1 f 1 c 1 h 1 e 1 b 1 g 1 d 1 a/#0 a 1 e/#0 f 1 b/#0 c 1 g/#0 h 1 d");
        Checks.due("alike(0, 1)", x.alike(0, 1), 0);
        Checks.due("alike(0, 2)", x.alike(0, 2), 1);
        row(x, 0, 2, 0, 1, 2, 3, 4, 5, 6, 7);
        Checks.figure(x, "#0 a 1 b 1 c 1 a/#0 d 1 e 1 f 1 d");
        Checks.figure(x, "#0 a 1 b 1 c 1 d 1 e 1 f 1 a");
        Checks.due("two triangles and a ring of six", x.alike(3, 4), 0);
        Checks.due("a ring of six", x.alike(4, 4), 1);
    }

    private static void far() {
        BalloonStall x = Checks.withSorts();
        Checks.figure(x, "#0 5(3 3)4/#1 30 30");
        int[][] want = {{0, 5, 8, 9, -1}, {5, 0, 3, 4, -1}, {8, 3, 0, 7, -1}, {9, 4, 7, 0, -1},
            {-1, -1, -1, -1, 0, 30, 60}};
        for (int p = 0; p < want.length; p++) {
            for (int q = 0; q < want[p].length; q++) {
                Checks.due("far(0, " + p + ", " + q + ")", x.far(0, p, q), want[p][q]);
            }
        }
        Checks.due("far(0, 7, 0)", x.far(0, 7, 0), -1);
        Checks.due("far(0, 0, 7)", x.far(0, 0, 7), -1);
        Checks.due("far(0, -1, -1)", x.far(0, -1, -1), -1);
        Checks.due("far(1, 0, 0)", x.far(1, 0, 0), -1);
        Checks.figure(x, "#0 a 10 b 30 c/#0 a 1 d 1 b/#0 c 5 e 5 d");
        Checks.due("round about is shorter", x.far(1, 1, 2), 11);
        Checks.due("far(1, 0, 1)", x.far(1, 0, 1), 2);
        StringBuilder chain = new StringBuilder("#0");
        for (int i = 0; i < 24; i++) {
            chain.append(" 30");
        }
        Checks.figure(x, chain.toString());
        Checks.due("from the first to the last", x.far(2, 0, 24), 720);
        Checks.due("from the last to the first", x.far(2, 24, 0), 720);
        Checks.due("span of the chain", x.span(2), 720);
    }

    private static void span() {
        BalloonStall x = Checks.withSorts();
        Checks.due("span(0)", x.span(0), -1);
        Checks.figure(x, "#0 5(3 3)4");
        Checks.due("span(0)", x.span(0), 9);
        Checks.figure(x, "#0 a");
        Checks.due("span of a point", x.span(1), 0);
        Checks.figure(x, "#0 5/#0 8/#0 3 4");
        Checks.due("span of the widest part", x.span(2), 8);
        Checks.figure(x, "#0 a 5 5 5 5 a");
        Checks.due("span of a ring", x.span(3), 10);
        Checks.due("span(-1)", x.span(-1), -1);
    }
}
