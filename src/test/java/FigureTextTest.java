/** Promises 5 and 6: texts read as figures to their first fault, and figures made of them. */
public final class FigureTextTest {
    public static void main(String[] args) {
        sortsThere();
        lengths();
        nesting();
        balloons();
        blanksAndOthers();
        manyBubbles();
        making();
        Checks.close("FigureTextTest");
    }

    private static void fault(BalloonStall x, String text, int want) {
        Checks.due("fault of " + text, Checks.fault(x, 0, text), want);
        if (want >= 0) {
            Checks.due("figure of faulty " + text, x.figure(), -1);
            Checks.due("tape behind faulty " + text, x.count(3), text.length());
        }
    }

    private static void sortsThere() {
        BalloonStall x = new BalloonStall();
        fault(x, "#05", 1);
        x.sort(10, 0, 0);
        fault(x, "#05", -1);
        fault(x, "#15", 1);
        fault(x, "#95", 1);
        fault(x, "#a", 1);
        fault(x, "#", 1);
        fault(x, "", 0);
        fault(x, "  ", 2);
        fault(x, "# ", 2);
        fault(x, "05", 0);
        fault(x, "##", 1);
        Checks.due("fault of another kind", x.fault(2), -2);
        Checks.due("fault(-1)", x.fault(-1), -2);
    }

    private static void lengths() {
        BalloonStall x = Checks.withSorts();
        fault(x, "#01", -1);
        fault(x, "#030", -1);
        fault(x, "#031", 3);
        fault(x, "#099", 3);
        fault(x, "#00", 2);
        fault(x, "#000", 3);
        fault(x, "#001", -1);
        fault(x, "#00 1", 2);
        fault(x, "#00a", 2);
        fault(x, "#0 100", 5);
        fault(x, "#0 123", 5);
        fault(x, "#0 311", 4);
        fault(x, "#0 12 3", -1);
        fault(x, "#0 1 2 3 30", -1);
        fault(x, "#0 12a13(14)15", -1);
        fault(x, "#0 12a313", 7);
    }

    private static void nesting() {
        BalloonStall x = Checks.withSorts();
        fault(x, "#0", 2);
        fault(x, "#0 ", 3);
        fault(x, "#0(", 3);
        fault(x, "#0()", 3);
        fault(x, "#0( )", 4);
        fault(x, "#0(1", 4);
        fault(x, "#0(1)", -1);
        fault(x, "#0(a)", -1);
        fault(x, "#0)", 2);
        fault(x, "#0 1)", 4);
        fault(x, "#0(1))", 5);
        fault(x, "#0(1/", 4);
        fault(x, "#0((((((1))))))", -1);
        fault(x, "#0(((((((1", 8);
        fault(x, "#0((((((1)(2))))))(3)", -1);
        fault(x, "#0((((((1)((", 11);
    }

    private static void balloons() {
        BalloonStall x = Checks.withSorts();
        fault(x, "#0a/", 4);
        fault(x, "#0a//", 4);
        fault(x, "#0a/#", 5);
        fault(x, "#0a/#1", 6);
        fault(x, "#0/#1a", 2);
        fault(x, "#0a/#3a", 5);
        fault(x, "#0a/0a", 4);
        fault(x, "#0a#1a", 3);
        fault(x, "#0a/#1a/#2a/#0a/#1a/#2a", -1);
        fault(x, "#0a/#1a/#2a/#0a/#1a/#2a/", 23);
        fault(x, "#0a/#1a/#2a/#0a/#1a/#2a /#0a", 24);
    }

    private static void blanksAndOthers() {
        BalloonStall x = Checks.withSorts();
        fault(x, "  #  0  12  a ( 3  b ) / # 1 h ", -1);
        fault(x, "#0i", 2);
        fault(x, "#0A", 2);
        fault(x, "#0`", 2);
        fault(x, "#0h\t", 3);
        fault(x, "#0h" + (char) 160, 3);
        fault(x, "#0h" + (char) 255, 3);
        fault(x, (char) 163 + "0h", 0);
        fault(x, "#0;", 2);
        fault(x, "#0:", 2);
    }

    private static void manyBubbles() {
        BalloonStall x = Checks.withSorts();
        StringBuilder text = new StringBuilder("#0");
        for (int i = 0; i < 24; i++) {
            text.append(i % 2 == 0 ? " 9" : " 30");
        }
        fault(x, text.toString(), -1);
        fault(x, text + " a(b)/#1 c", -1);
        fault(x, text + " 12", text.length() + 1);
        fault(x, text + "/#1(0", text.length() + 4);
        Checks.due("figure of 24 bubbles", Checks.figure(x, text.toString()), 0);
        Checks.due("its bubbles", x.many(0, 1), 24);
        Checks.due("its points", x.many(0, 2), 25);
        String many = "#0 1 1 1 1/#0 1 1 1 1/#0 1 1 1 1/#0 1 1 1 1/#0 1 1 1 1/#0 1 1 1 1";
        Checks.due("figure of six balloons", Checks.figure(x, many), 1);
        Checks.due("its points are the most", x.many(1, 2), 30);
        Checks.due("ends of the last point", x.ends(1, 29), 1);
        fault(x, many + " 1", many.length() + 1);
    }

    private static void making() {
        BalloonStall x = Checks.withSorts();
        for (int i = 0; i < 12; i++) {
            Checks.due("figure " + i, Checks.figure(x, "#0 5"), i);
            Checks.due("tape behind it", x.count(3), 0);
        }
        Checks.due("figure 12", Checks.figure(x, "#0 5"), -1);
        Checks.due("tape stays", x.count(3), 4);
        Checks.due("fault, though there are twelve", x.fault(0), -1);
        Checks.due("fault of another text", Checks.fault(x, 0, "#0 5(6 a 31"), 10);
        Checks.due("the last one stays as it was", x.many(11, 1), 1);
        Checks.due("count(1)", x.count(1), 12);
    }
}
