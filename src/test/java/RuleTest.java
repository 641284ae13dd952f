/** Promises 5, 7 and 33: texts read as rules to their first fault, and what rules are worth. */
public final class RuleTest {
    public static void main(String[] args) {
        clauses();
        sums();
        conditions();
        nesting();
        making();
        worthOfSums();
        bounds();
        worthOfConditions();
        worthOfClauses();
        Checks.close("RuleTest");
    }

    private static void fault(String text, int want) {
        BalloonStall x = new BalloonStall();
        Checks.due("fault of " + text, Checks.fault(x, 1, text), want);
        Checks.due("rule of " + text, x.rule(), want < 0 ? 0 : -1);
        Checks.due("tape behind " + text, x.count(3), want < 0 ? 0 : text.length());
    }

    private static void clauses() {
        fault("", 0);
        fault("  ", 2);
        fault("w", 1);
        fault("w:", 2);
        fault("w: ", 3);
        fault("w:1", -1);
        fault(" w : 1 ; w : l ", -1);
        fault("w:1;", 4);
        fault("w:1;;", 4);
        fault("w:1;w", 5);
        fault("w:1;1", 4);
        fault("W:1", 0);
        fault("1", 0);
        fault("w1", 1);
        fault("w::", 2);
        fault("w:;", 2);
        fault("w:1w", 3);
        fault("w:1:", 3);
        fault("w:1#", 3);
        fault("w:1" + (char) 238, 3);
    }

    private static void sums() {
        fault("w:1234", -1);
        fault("w:12345", 6);
        fault("w:0000", -1);
        fault("w:00000", 6);
        fault("w:1 2", 4);
        fault("w:l2", 3);
        fault("w:2l", 3);
        fault("w:lh", 3);
        fault("w:l+h-k*s/a", -1);
        fault("w:b", 2);
        fault("w:L", 2);
        fault("w:-1", 2);
        fault("w:1+-1", 4);
        fault("w:1+", 4);
        fault("w:1*/2", 4);
        fault("w:[1]", -1);
        fault("w:[ 1 + 2 ] * 3", -1);
        fault("w:[]", 3);
        fault("w:[1", 4);
        fault("w:1]", 3);
        fault("w:[1)", 4);
        fault("w:[1;", 4);
        fault("w:[1?", 4);
        fault("w:[1=", 4);
        fault("w:[1&", 4);
        fault("w:[1][2]", 5);
        fault("w:[1](", 5);
        fault("w:1+(", 4);
        fault("w:1+!", 4);
        fault("w:1!", 3);
        fault("w:1(", 3);
        fault("w:1[", 3);
    }

    private static void conditions() {
        fault("w:1=2?3", -1);
        fault("w:1=2", 5);
        fault("w:1=2;", 5);
        fault("w:1?", 3);
        fault("w:1&", 3);
        fault("w:1|", 3);
        fault("w:1<2>", 5);
        fault("w:1==", 4);
        fault("w:1=!", 4);
        fault("w:1=(", 4);
        fault("w:1=2&3", 7);
        fault("w:1=2&3?", 7);
        fault("w:1=2&3;", 7);
        fault("w:1=2|3>4?5;w:6", -1);
        fault("w:1=2?", 6);
        fault("w:1=2??", 6);
        fault("w:1=2?(", 6);
        fault("w:1=2?!", 6);
        fault("w:1=2?3=", 7);
        fault("w:1=2?3?", 7);
        fault("w:1=2?3&", 7);
        fault("w:(1=2)?3", -1);
        fault("w:(1)", 4);
        fault("w:(1+", 5);
        fault("w:(1=2", 6);
        fault("w:(1=2?", 6);
        fault("w:(1=2;", 6);
        fault("w:(1=2)", 7);
        fault("w:(1=2);", 7);
        fault("w:(1=2)+", 7);
        fault("w:(1=2)=", 7);
        fault("w:(1=2))", 7);
        fault("w:(1=2)(", 7);
        fault("w:(1=2)1", 7);
        fault("w:((1=2)&!l<3|h>[4])&k=1?5", -1);
        fault("w:()", 3);
        fault("w:!1", 4);
        fault("w:!1;", 4);
        fault("w:!1?", 4);
        fault("w:!1=2?3", -1);
        fault("w:!!(1=2)?3", -1);
        fault("w:!&", 3);
        fault("w:1=2)", 5);
        fault("w:1=2]", 5);
        fault("w:[1]=[2]?[3]", -1);
        fault("w:[1]+1>2?3", -1);
        fault("w:1=[2;", 6);
        fault("w:1=[2]|(", 9);
    }

    private static void nesting() {
        fault("w:[[[[[[1]]]]]]", -1);
        fault("w:[[[[[[[", 8);
        fault("w:((((((1=1))))))?1", -1);
        fault("w:(((((((", 8);
        fault("w:!!!!!!1=1?1", -1);
        fault("w:!!!!!!!", 8);
        fault("w:!(!([[1]]=1))?1", -1);
        fault("w:!(!([[[1]]]=1))?1", 8);
        fault("w:!!!!!!1=1&!!!!!!1=1|!!!!!!(", 28);
        fault("w:!!!!!(1=1)&!!!!!(1=1)?[[[[[[1]]]]]]+[[[[[[[", 44);
        fault("w:!!!!!!1=[", 10);
        fault("w:!!!!!1=[1]+[1]?1", -1);
        fault("w:(((((1=1)&(2=2)))))&((((((1=1))))))?1", -1);
        fault("w:(((((1=1)&([", 14);
        fault("w:((((((1=1)&[", 14);
        fault("w:((((((1=1)&[[", 14);
        fault("w:[1]+[2]+[3]+[4]+[5]+[6]+[7]+[8]", -1);
        fault("w:!1=1?1;w:!!!!!!1=1?1", -1);
    }

    private static void making() {
        BalloonStall x = new BalloonStall();
        for (int i = 0; i < 6; i++) {
            Checks.due("rule " + i, Checks.rule(x, "w:" + i), i);
            Checks.due("tape behind it", x.count(3), 0);
        }
        Checks.due("a seventh rule", Checks.rule(x, "w:6"), -1);
        Checks.due("tape stays", x.count(3), 3);
        Checks.due("fault, though there are six", x.fault(1), -1);
        Checks.due("count(4)", x.count(4), 6);
        for (int i = 0; i < 6; i++) {
            Checks.due("worth of rule " + i, x.worth(i, 9, 9, 9, 9, 9), i);
        }
        Checks.dueNoSuch("worth(6, ..)", () -> x.worth(6, 0, 0, 0, 0, 0));
        Checks.dueNoSuch("worth(-1, ..)", () -> x.worth(-1, 0, 0, 0, 0, 0));
        Checks.dueNoSuch("worth without rules", () -> new BalloonStall().worth(0, 0, 0, 0, 0, 0));
        longest();
    }

    private static void longest() {
        BalloonStall x = new BalloonStall();
        StringBuilder text = new StringBuilder("w:1");
        while (text.length() < 199) {
            text.append("+1");
        }
        Checks.due("a rule of 199 bytes", Checks.rule(x, text.toString()), 0);
        Checks.due("its worth", x.worth(0, 0, 0, 0, 0, 0), 99);
        StringBuilder many = new StringBuilder("w:l=0?1");
        while (many.length() < 192) {
            many.append(";w:l=0?1");
        }
        Checks.due("a rule of many clauses", Checks.rule(x, many.toString()), 1);
        Checks.due("its worth", x.worth(1, 1, 0, 0, 0, 0), 0);
    }

    /** By the letters l 7, h 2, k 5, s 3, a 100. */
    private static void worth(String text, int want) {
        BalloonStall x = new BalloonStall();
        Checks.due("rule " + text, Checks.rule(x, text), 0);
        Checks.due("worth of " + text, x.worth(0, 7, 2, 5, 3, 100), want);
    }

    private static void worthOfSums() {
        worth("w:l", 7);
        worth("w:h", 2);
        worth("w:k", 5);
        worth("w:s", 3);
        worth("w:a", 100);
        worth("w:0012", 12);
        worth("w:l+h*k", 17);
        worth("w:[l+h]*k", 45);
        worth("w:9-3-2", 4);
        worth("w:9-[3-2]", 8);
        worth("w:100/7/2", 7);
        worth("w:100/[7/2]", 33);
        worth("w:7/2*2", 6);
        worth("w:2*7/2", 7);
        worth("w:0-7/2", -3);
        worth("w:[0-7]/2", -3);
        worth("w:7/[0-2]", -3);
        worth("w:[0-7]/[0-2]", 3);
        worth("w:5/0", 0);
        worth("w:5/[l-7]+1", 1);
        worth("w:0/0", 0);
        worth("w:1-2*3+4", -1);
    }

    private static void bounds() {
        worth("w:9999*9999", 1000000);
        worth("w:0-9999*9999", -1000000);
        worth("w:9999*9999-1", 999999);
        worth("w:9999*a+9999*a-9999", 990001);
        worth("w:0-9999*a-9999*a+9999", -990001);
        worth("w:9999*9999/1000", 1000);
        worth("w:9999*9999*9999*9999=1000*1000?1", 1);
        BalloonStall x = new BalloonStall();
        Checks.rule(x, "w:l*h");
        Checks.rule(x, "w:l/h");
        Checks.rule(x, "w:l+h");
        Checks.rule(x, "w:l-h");
        Checks.rule(x, "w:l<h?1;w:l>h?2;w:3");
        int most = Integer.MAX_VALUE;
        int least = Integer.MIN_VALUE;
        Checks.due("most * most", x.worth(0, most, most, 0, 0, 0), 1000000);
        Checks.due("least * least", x.worth(0, least, least, 0, 0, 0), 1000000);
        Checks.due("least * most", x.worth(0, least, most, 0, 0, 0), -1000000);
        Checks.due("least / -1", x.worth(1, least, -1, 0, 0, 0), 1000000);
        Checks.due("most / most", x.worth(1, most, most, 0, 0, 0), 1);
        Checks.due("most / 0", x.worth(1, most, 0, 0, 0, 0), 0);
        Checks.due("most / 1000000", x.worth(1, most, 1000000, 0, 0, 0), 2147);
        Checks.due("most + most", x.worth(2, most, most, 0, 0, 0), 1000000);
        Checks.due("most + least", x.worth(2, most, least, 0, 0, 0), -1);
        Checks.due("least - most", x.worth(3, least, most, 0, 0, 0), -1000000);
        Checks.due("least < most", x.worth(4, least, most, 0, 0, 0), 1);
        Checks.due("most > least", x.worth(4, most, least, 0, 0, 0), 2);
    }

    private static void worthOfConditions() {
        worth("w:l=7?1", 1);
        worth("w:l=8?1", 0);
        worth("w:l<7?1", 0);
        worth("w:l<8?1", 1);
        worth("w:l>7?1", 0);
        worth("w:l>6?1", 1);
        worth("w:l+h=3*3?1", 1);
        worth("w:1=1|1=2&1=2?1", 1);
        worth("w:(1=1|1=2)&1=2?1", 0);
        worth("w:1=2&1=2|1=1?1", 1);
        worth("w:!1=2?1", 1);
        worth("w:!1=1|1=1?1", 1);
        worth("w:!(1=1|1=1)?1", 0);
        worth("w:!1=2&1=2?1", 0);
        worth("w:!(1=2&1=2)?1", 1);
        worth("w:!!1=1?1", 1);
        worth("w:!!!1=1?1", 0);
        worth("w:1=1&!1=1|!1=2&1=1?1", 1);
        worth("w:[l]=[7]?[1]", 1);
        worth("w:!(!l=7&(h=2|k=1))&((s=3))?1", 1);
    }

    private static void worthOfClauses() {
        worth("w:l=8?1;w:l=7?2;w:3", 2);
        worth("w:l=8?1;w:l=9?2;w:3", 3);
        worth("w:l=8?1;w:l=9?2", 0);
        worth("w:1;w:2", 1);
        worth("w:l=7?0-5;w:2", -5);
        worth("w:(l=8)?1;w:!l=8?2;w:[3]", 2);
    }
}
