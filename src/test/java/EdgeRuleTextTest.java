import java.util.function.Supplier;

/** The boundary cases of promises 5 and 7, sentence by sentence: texts of rules, their faults, rules made. */
public final class EdgeRuleTextTest {
    public static void main(String[] args) {
        clausesOneAtLeast();
        aClauseBeginsWithWAndColon();
        perhapsACondition();
        aClauseThatGoesOnWithAnOpeningHasACondition();
        aSumEndsAClause();
        truthsAndUnits();
        aUnitComparesOnce();
        numbersHaveOneToFourDigits();
        aFifthDigitIsWrong();
        lettersAreFive();
        blanksMayStandBetween();
        blanksEndANumber();
        noOtherSignIsABlank();
        sixOpeningsWithinOneAnother();
        openingsOfAllKindsCountTogether();
        anEndedOpeningCountsNoMore();
        bracketsCloseWhatIsOpen();
        aTextThatEndsTooEarly();
        aTextOf200Bytes();
        theFirstFaultIsTold();
        sixRules();
        theTapeIsEmptyThen();
        Checks.close("EdgeRuleTextTest");
    }

    private static Supplier<BalloonStall> with(String text) {
        return () -> {
            BalloonStall x = Checks.withSorts();
            Checks.figure(x, "#0 9 9");
            Checks.rule(x, "w:7");
            Checks.feed(x, text);
            return x;
        };
    }

    private static void wrong(String text, int at) {
        Checks.due("fault of " + text, with(text).get().fault(1), at);
        Twins.none("rule of " + text, with(text), BalloonStall::rule);
    }

    private static void right(String text) {
        BalloonStall x = with(text).get();
        Checks.due("fault of " + text, x.fault(1), -1);
        Checks.due("rule of " + text, x.rule(), 1);
        Checks.due("worth of the rule before it", x.worth(0, 0, 0, 0, 0, 0), 7);
    }

    // "CLAUSES with ; between, one at least"
    private static void clausesOneAtLeast() {
        wrong("", 0);
        wrong(";", 0);
        right("w:1");
        right("w:1;w:2");
        right("w:1" + ";w:1".repeat(49));
        wrong("w:1;", 4);
        wrong("w:1;;", 4);
        wrong(";w:1", 0);
        wrong("w:1w:1", 3);
        wrong("w:1;w:1;", 8);
        wrong("w:1;1", 4);
    }

    // "w, :"
    private static void aClauseBeginsWithWAndColon() {
        wrong("v:1", 0);
        wrong("W:1", 0);
        wrong("1", 0);
        wrong(":1", 0);
        wrong("ww:1", 1);
        wrong("w1", 1);
        wrong("w;1", 1);
        wrong("w::1", 2);
        wrong("w", 1);
        wrong("w:", 2);
        wrong("w:;", 2);
        wrong("w:?1", 2);
    }

    // "perhaps CONDITION ?, then SUM"
    private static void perhapsACondition() {
        right("w:1=1?1");
        right("w:1");
        wrong("w:1=1", 5);
        wrong("w:1=1;", 5);
        wrong("w:1=1;w:1", 5);
        wrong("w:1=1?", 6);
        wrong("w:1=1?;", 6);
        wrong("w:1=1??1", 6);
        wrong("w:1?1", 3);
        wrong("w:[1]?1", 5);
        wrong("w:1=1?1?1", 7);
        wrong("w:1=1?1=1", 7);
        wrong("w:1=1?1=1?1", 7);
    }

    // "(A CLAUSE that goes on with ! or ( behind its : has a CONDITION.)"
    private static void aClauseThatGoesOnWithAnOpeningHasACondition() {
        wrong("w:(1)", 4);
        wrong("w:(l+1)*2", 6);
        wrong("w:((1))", 5);
        wrong("w:!1", 4);
        wrong("w:!1;", 4);
        wrong("w:!1?1", 4);
        wrong("w:(1=1)", 7);
        wrong("w:(1=1);", 7);
        wrong("w:(1=1)+1", 7);
        wrong("w:(1=1)=1", 7);
        wrong("w:!1=1", 6);
        wrong("w:!1=1;", 6);
        right("w:(1=1)?1");
        right("w:!1=1?1");
        right("w:!(1=1)?1");
        right("w:(!1=1)?1");
        right("w:!!(1=1)?1");
    }

    private static void aSumEndsAClause() {
        wrong("w:1=1?(1)", 6);
        wrong("w:1=1?!1", 6);
        wrong("w:1+", 4);
        wrong("w:1-;", 4);
        wrong("w:1*", 4);
        wrong("w:1/", 4);
        wrong("w:-1", 2);
        wrong("w:+1", 2);
        wrong("w:1+-1", 4);
        wrong("w:1--1", 4);
        wrong("w:1**1", 4);
        wrong("w:1//1", 4);
        wrong("w:1%1", 3);
        wrong("w:1+(1)", 4);
        wrong("w:1*!1", 4);
        right("w:1+1-1*1/1");
        right("w:[1]+[1]");
    }

    // "TRUTHS with | between; TRUTH: UNITS with & between"
    private static void truthsAndUnits() {
        right("w:1=1|1=1&1=1|1=1?1");
        wrong("w:1|", 3);
        wrong("w:1&", 3);
        wrong("w:1=1||", 6);
        wrong("w:1=1&&", 6);
        wrong("w:1=1|?", 6);
        wrong("w:1=1&?", 6);
        wrong("w:1=1|1", 7);
        wrong("w:1=1&1?1", 7);
        wrong("w:1=1|1;", 7);
        wrong("w:(1=1|1)", 8);
        wrong("w:|1=1?1", 2);
        wrong("w:[1=1]?1", 4);
        wrong("w:[1&1]", 4);
        wrong("w:[1|1]", 4);
        wrong("w:1=1(", 5);
        wrong("w:1=1!", 5);
        wrong("w:(1=1)(1=1)?1", 7);
        wrong("w:(1=1)!1=1?1", 7);
    }

    // "SUM, one of = < >, SUM"
    private static void aUnitComparesOnce() {
        for (char sign : new char[] {'=', '<', '>'}) {
            right("w:1" + sign + "1?1");
            right("w:1+1" + sign + "[1]*l?1");
            wrong("w:" + sign, 2);
            wrong("w:1" + sign, 4);
            wrong("w:1" + sign + "?", 4);
            wrong("w:1" + sign + ")", 4);
            for (char other : new char[] {'=', '<', '>'}) {
                wrong("w:1" + sign + other + "1?1", 4);
                wrong("w:1" + sign + "1" + other + "1?1", 5);
            }
            wrong("w:1" + sign + "(1)", 4);
            wrong("w:1" + sign + "!1", 4);
            wrong("w:[1" + sign, 4);
        }
        wrong("w:!=1", 3);
    }

    // "a number (1 to 4 digits)"
    private static void numbersHaveOneToFourDigits() {
        String[] numbers = {"0", "9", "10", "99", "100", "999", "1000", "9999", "0000", "0009", "0123", "00"};
        for (String number : numbers) {
            right("w:" + number);
            right("w:l+" + number);
            right("w:[" + number + "]");
            right("w:" + number + "=" + number + "?" + number + ";w:" + number);
            BalloonStall x = with("w:" + number).get();
            x.rule();
            Checks.due("worth of " + number, x.worth(1, 1, 1, 1, 1, 1), Integer.parseInt(number));
        }
    }

    // "a fifth digit .. are such"
    private static void aFifthDigitIsWrong() {
        wrong("w:10000", 6);
        wrong("w:00000", 6);
        wrong("w:00001", 6);
        wrong("w:123456", 6);
        wrong("w:l+12345", 8);
        wrong("w:1234+12345", 11);
        wrong("w:[12345]", 7);
        wrong("w:12345=1?1", 6);
        wrong("w:1=12345?1", 8);
        wrong("w:1=1?12345", 10);
        wrong("w:1;w:12345", 10);
        right("w:1234+1234");
    }

    // "a letter (l h k s a)"
    private static void lettersAreFive() {
        for (int sign = 1; sign < 256; sign++) {
            if (sign >= '0' && sign <= '9' || sign == ' ' || sign == '[' || sign == '(' || sign == '!') {
                continue;
            }
            if ("lhksa".indexOf(sign) >= 0) {
                right("w:" + (char) sign);
                right("w:1+" + (char) sign);
            } else {
                wrong("w:" + (char) sign, 2);
                wrong("w:1+" + (char) sign, 4);
            }
        }
        wrong("w:ll", 3);
        wrong("w:l1", 3);
        wrong("w:1l", 3);
        wrong("w:l[1]", 3);
        wrong("w:1[1]", 3);
        wrong("w:[1]1", 5);
        wrong("w:[1]l", 5);
        wrong("w:[1][1]", 5);
    }

    // "Blanks may stand between all these"
    private static void blanksMayStandBetween() {
        String[] parts = {"w", ":", "!", "(", "12", "<", "[", "l", "+", "3", "]", "&", "h", "=", "k", ")", "?", "s",
            "*", "a", ";", "w", ":", "1234"};
        for (int gap = 0; gap <= parts.length; gap++) {
            StringBuilder text = new StringBuilder();
            for (int i = 0; i < parts.length; i++) {
                text.append(i == gap ? "  " : "").append(parts[i]);
            }
            String whole = text + (gap == parts.length ? " " : "");
            right(whole);
            BalloonStall x = with(whole).get();
            x.rule();
            Checks.due("worth of " + whole, x.worth(1, 9, 1, 2, 3, 4), 12);
            Checks.due("worth of " + whole, x.worth(1, 10, 2, 2, 3, 4), 1234);
        }
    }

    // "not within numbers"
    private static void blanksEndANumber() {
        wrong("w:1 2", 4);
        wrong("w:12 34", 5);
        wrong("w:1=1 1?1", 6);
        wrong("w:1=1?1 1", 8);
        wrong("w:[1 1]", 5);
        wrong("w:1234 5", 7);
    }

    private static void noOtherSignIsABlank() {
        for (int sign : new int[] {1, 9, 10, 13, 31, 34, 127, 128, 160, 255}) {
            wrong((char) sign + "w:1", 0);
            wrong("w" + (char) sign + ":1", 1);
            wrong("w:" + (char) sign + "1", 2);
            wrong("w:1" + (char) sign + "+1", 3);
            wrong("w:1+" + (char) sign + "1", 4);
            wrong("w:1;" + (char) sign + "w:1", 4);
        }
    }

    // "at most six of ( [ ! within one another"; "a seventh of these are such"
    private static void sixOpeningsWithinOneAnother() {
        right("w:[[[[[[1]]]]]]");
        wrong("w:[[[[[[[1]]]]]]]", 8);
        right("w:((((((1=1))))))?1");
        wrong("w:(((((((1=1)))))))?1", 8);
        right("w:!!!!!!1=1?1");
        wrong("w:!!!!!!!1=1?1", 8);
        right("w:1=1?[[[[[[1]]]]]]");
        wrong("w:1=1?[[[[[[[1", 12);
        right("w:1=[[[[[[1]]]]]]?1");
        wrong("w:1=[[[[[[[1", 10);
    }

    private static void openingsOfAllKindsCountTogether() {
        right("w:!(!([[1]]=1))?1");
        wrong("w:!(!([[[1]]]=1))?1", 8);
        right("w:!(!(![1]=1))?1");
        wrong("w:!(!(![[1]]=1))?1", 8);
        right("w:!!!([[1]]=1)?1");
        wrong("w:!!!([[[1]]]=1)?1", 8);
        right("w:((((([1]=1)))))?1");
        wrong("w:(((((([1]=1))))))?1", 8);
        right("w:!!!!!1=[1]?1");
        wrong("w:!!!!!!1=[1]?1", 10);
        wrong("w:!!!!!!(", 8);
        wrong("w:((((((!", 8);
        wrong("w:!!!!!![", 8);
        wrong("w:(((((([", 8);
        right("w:(((((1=1&!1=1)))))?1");
        wrong("w:((((((1=1&!1=1))))))?1", 12);
    }

    private static void anEndedOpeningCountsNoMore() {
        right("w:" + "[1]+".repeat(40) + "[1]");
        right("w:!1=1" + "&!1=1".repeat(20) + "?1");
        right("w:(1=1)" + "|(1=1)".repeat(20) + "?1");
        right("w:!!!!!!1=1&!!!!!!1=1|!!!!!!1=1?1");
        right("w:!!!!!!1=1?[[[[[[1]]]]]]");
        right("w:!!!!!(1=1)&!!!!!(1=1)?1;w:((((((1=1))))))?1");
        right("w:(!!!!!1=1&!!!!!1=1)?1");
        wrong("w:(!!!!!1=1&!!!!!!1=1)?1", 17);
        right("w:!(1=1)&((((((1=1))))))?1");
        right("w:!1=[1]+[1]*[1]?1");
        right("w:(((((1=1)&(1=1))&(1=1))))&((((((1=1))))))?1");
        wrong("w:[[[[[[1]+[[", 12);
        right("w:[[[[[[1]]]]]]+[[[[[[1]]]]]]");
        right("w:[[[[[[1]+[1]]+[[1]]]]]]");
    }

    private static void bracketsCloseWhatIsOpen() {
        wrong("w:1]", 3);
        wrong("w:1)", 3);
        wrong("w:[1)", 4);
        wrong("w:[1]]", 5);
        wrong("w:(1=1]", 6);
        wrong("w:([1=1)]", 5);
        wrong("w:(1=1))?1", 7);
        wrong("w:((1=1)?1", 8);
        wrong("w:(1=1?1", 6);
        wrong("w:(1=1;", 6);
        wrong("w:[1;", 4);
        wrong("w:[1?", 4);
        wrong("w:()", 3);
        wrong("w:[]", 3);
        wrong("w:1=1)", 5);
        wrong("w:1=1?1)", 7);
        wrong("w:1=1?1]", 7);
        wrong("w:(1=[1)", 7);
        wrong("w:[(", 3);
        wrong("w:[!", 3);
    }

    // "(the length, if it ends too early)"
    private static void aTextThatEndsTooEarly() {
        String text = "w:!(12<[l+3]&h=k)?s*a;w:12";
        for (int end = 0; end < text.length(); end++) {
            if (end != 19 && end != 21 && end != 25) {
                wrong(text.substring(0, end), end);
            }
        }
        right("w:!(12<[l+3]&h=k)?s");
        right("w:!(12<[l+3]&h=k)?s*a");
        right("w:!(12<[l+3]&h=k)?s*a;w:1");
        right(text);
        wrong("w:1=1", 5);
        wrong("w:1=1  ", 7);
        wrong(" ".repeat(200), 200);
    }

    private static void aTextOf200Bytes() {
        right("w: 1" + "+1".repeat(98));
        wrong("w:1" + "+1".repeat(98) + "+", 200);
        right("w:" + " ".repeat(197) + "1");
        wrong("w:" + " ".repeat(198), 200);
        right("w:1" + ";w:1".repeat(48) + " ;w:1");
        wrong("w:1" + ";w:1".repeat(49) + ";", 200);
        BalloonStall x = with("w: 1" + "+1".repeat(98)).get();
        Checks.due("bytes", x.count(3), 200);
        x.rule();
        Checks.due("worth of 99 ones", x.worth(1, 0, 0, 0, 0, 0), 99);
        BalloonStall y = with("w:1=2?1" + ";w:1=2?1".repeat(23) + ";w:  5678").get();
        Checks.due("bytes", y.count(3), 200);
        y.rule();
        Checks.due("worth of the 25th clause", y.worth(1, 0, 0, 0, 0, 0), 5678);
        BalloonStall z = with("w:l*[h*[k*[s*[a*[l+h]+k]+s]+a]+h]").get();
        z.rule();
        Checks.due("worth of six brackets", z.worth(1, 1, 2, 3, 4, 5), 1 * (2 * (3 * (4 * (5 * 3 + 3) + 4) + 5) + 2));
    }

    // "FAULT: the first byte at which no RULE can go on"
    private static void theFirstFaultIsTold() {
        wrong("x:12345)", 0);
        wrong("wx12345)", 1);
        wrong("w:12345)", 6);
        wrong("w:1234)5", 6);
        wrong("#0 1", 0);
        wrong("w:1#", 3);
        wrong("w:1,1", 3);
        wrong("w:1:1", 3);
    }

    private static BalloonStall withRules(int many) {
        BalloonStall x = Checks.withSorts();
        Checks.figure(x, "#0 9 9");
        for (int i = 0; i < many; i++) {
            Checks.rule(x, "w:l*" + (i + 1));
        }
        return x;
    }

    // "RULES (6 at most)"; "NONE (the TAPE stays): a FAULT, there are six."
    private static void sixRules() {
        Checks.due("rule 5", Checks.rule(withRules(5), "w:1"), 5);
        Supplier<BalloonStall> full = () -> {
            BalloonStall x = withRules(6);
            Checks.feed(x, "w:1234");
            return x;
        };
        Twins.none("a seventh rule", full, BalloonStall::rule);
        BalloonStall x = full.get();
        Checks.due("a seventh rule", x.rule(), -1);
        Checks.due("the tape stays", x.count(3), 6);
        Checks.due("without a fault", x.fault(1), -1);
        Checks.due("rules", x.count(4), 6);
        Checks.dueNoSuch("worth of a seventh", () -> x.worth(6, 1, 1, 1, 1, 1));
        for (int i = 0; i < 6; i++) {
            Checks.due("worth of rule " + i, x.worth(i, 10, 1, 1, 1, 1), 10 * (i + 1));
        }
        Checks.due("a faulty seventh", Checks.rule(x, "w:12345"), -1);
        Checks.due("its tape stays", x.count(3), 7);
    }

    // "The TAPE (empty then) is a RULE: its number."
    private static void theTapeIsEmptyThen() {
        BalloonStall x = with("w:1").get();
        Checks.due("rule", x.rule(), 1);
        Checks.due("bytes behind it", x.count(3), 0);
        Checks.due("fault behind it", x.fault(1), 0);
        Checks.due("rule again", x.rule(), -1);
        Checks.due("a refused text", Checks.rule(x, "w:!((1=1?"), -1);
        Checks.due("its openings are forgotten", Checks.rule(x, "w:((((((1=1))))))?2"), 2);
        Checks.due("worth", x.worth(2, 0, 0, 0, 0, 0), 2);
        Checks.due("a refused text of a !", Checks.rule(x, "w:!1=1"), -1);
        Checks.due("its ! is forgotten", Checks.rule(x, "w:5"), 3);
        Checks.due("worth", x.worth(3, 0, 0, 0, 0, 0), 5);
        Checks.due("a refused text of a condition", Checks.rule(x, "w:1=2?1;w:1=2?"), -1);
        Checks.due("its condition is forgotten", Checks.rule(x, "w:6"), 4);
        Checks.due("worth", x.worth(4, 0, 0, 0, 0, 0), 6);
        Checks.due("worth of the one before", x.worth(1, 0, 0, 0, 0, 0), 1);
    }
}
