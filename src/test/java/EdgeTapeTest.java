import java.util.function.Supplier;

/** The boundary cases of promises 1 to 5 and 36, sentence by sentence: sorts, the tape, counts. */
public final class EdgeTapeTest {
    private static final int MOST = Integer.MAX_VALUE;
    private static final int LEAST = Integer.MIN_VALUE;

    public static void main(String[] args) {
        aNewObjectHasNoSorts();
        sixSortsAtMost();
        airIsFrom5To200();
        strainIsFrom0To9();
        chanceIsFrom0To99();
        extremesOfASortCount();
        bytesOf0AreLeftOut();
        theHighestByteComesFirst();
        twoHundredBytesAtMost();
        twoHundredBytesAreCountedWithoutThoseOf0();
        theTapeCanBeEnded();
        endAloneKeepsTheFirstBytes();
        faultsOfFiguresAndRulesAlone();
        countsOfFiveKinds();
        Checks.close("EdgeTapeTest");
    }

    // "No SORTS."
    private static void aNewObjectHasNoSorts() {
        Supplier<BalloonStall> fresh = BalloonStall::new;
        for (int what = 0; what < 5; what++) {
            Checks.due("count(" + what + ") when new", fresh.get().count(what), 0);
        }
        Checks.due("fault of #0a without sorts", Checks.fault(fresh.get(), 0, "#0a"), 1);
        Twins.no("stock without sorts", fresh, x -> x.stock(0, 1));
        Twins.none("made without sorts", fresh, x -> x.made(0, 0));
        Twins.none("figure of an empty tape", fresh, BalloonStall::figure);
        Twins.none("rule of an empty tape", fresh, BalloonStall::rule);
        Checks.due("run of nobody", fresh.get().run(1), 0);
        Checks.due("close with nobody", fresh.get().close(), 0);
    }

    // "SORTS (6 at most) of balloons"
    private static void sixSortsAtMost() {
        BalloonStall x = new BalloonStall();
        for (int i = 0; i < 6; i++) {
            Checks.due("fault where sort " + i + " is not there", Checks.fault(x, 0, "#" + i + "a"), 1);
            Checks.due("sort " + i, x.sort(50 + i, 0, 0), i);
            Checks.due("fault where sort " + i + " is there", Checks.fault(x, 0, "#" + i + "a"), -1);
        }
        Twins.none("a seventh sort", EdgeTapeTest::sixSorts, y -> y.sort(50, 0, 0));
        Checks.due("a seventh sort", x.sort(60, 0, 0), -1);
        Checks.due("it is not there", Checks.fault(x, 0, "#6a"), 1);
        for (int i = 0; i < 6; i++) {
            Checks.figure(x, "#" + i + "a");
            Checks.due("air of sort " + i + " behind a seventh", x.rest(i, 0), 50 + i);
        }
    }

    private static BalloonStall sixSorts() {
        BalloonStall x = new BalloonStall();
        for (int i = 0; i < 6; i++) {
            x.sort(50 + i, 0, 0);
        }
        Checks.feed(x, "#5 1");
        return x;
    }

    private static void sortDue(int air, int strain, int chance, boolean made) {
        String call = "sort(" + air + ", " + strain + ", " + chance + ")";
        if (made) {
            Checks.due(call, new BalloonStall().sort(air, strain, chance), 0);
        } else {
            Twins.none(call, Twins::busy, x -> x.sort(air, strain, chance));
        }
    }

    // "AIR (5 .. 200)"
    private static void airIsFrom5To200() {
        for (int air : new int[] {LEAST, -5, 0, 4, 201, MOST}) {
            sortDue(air, 0, 0, false);
        }
        sortDue(5, 0, 0, true);
        sortDue(200, 0, 0, true);
    }

    // "STRAIN (0 .. 9)"
    private static void strainIsFrom0To9() {
        for (int strain : new int[] {LEAST, -1, 10, MOST}) {
            sortDue(50, strain, 0, false);
        }
        sortDue(50, 0, 0, true);
        sortDue(50, 9, 0, true);
    }

    // "a CHANCE (0 .. 99)"
    private static void chanceIsFrom0To99() {
        for (int chance : new int[] {LEAST, -1, 100, MOST}) {
            sortDue(50, 0, chance, false);
        }
        sortDue(50, 0, 0, true);
        sortDue(50, 0, 99, true);
    }

    private static void extremesOfASortCount() {
        BalloonStall x = new BalloonStall();
        x.sort(5, 9, 99);
        x.sort(200, 0, 0);
        Checks.figure(x, "#0 a/#1 a");
        Checks.due("rest by the least air", x.rest(0, 0), 5);
        Checks.due("rest by the most air", x.rest(0, 1), 200);
        Checks.rule(x, "w:s");
        Checks.rule(x, "w:a");
        Checks.figure(x, "#0 30/#1 30");
        Checks.due("loses the strain", x.aged(1, 0, 1, 0), 21);
        Checks.due("loses no strain", x.aged(1, 0, 1, 1), 30);
        Checks.due("loses the air", x.aged(1, 1, 1, 0), 25);
    }

    // "bytes of 0 are left out"
    private static void bytesOf0AreLeftOut() {
        Checks.due("feed of zeros", new BalloonStall().feed(0, 0, 0, 0, 0), 0);
        for (int shift = 0; shift < 32; shift += 8) {
            int one = 1 << shift;
            Checks.due("one byte of 1 in a, " + shift, new BalloonStall().feed(one, 0, 0, 0, 0), 1);
            Checks.due("one byte of 1 in c, " + shift, new BalloonStall().feed(0, 0, one, 0, 0), 1);
            Checks.due("one byte of 1 in e, " + shift, new BalloonStall().feed(0, 0, 0, 0, one), 1);
            int hole = ~(255 << shift);
            Checks.due("one byte of 0 in b, " + shift, new BalloonStall().feed(-1, hole, -1, -1, -1), 19);
            Checks.due("one byte of 0 in d, " + shift, new BalloonStall().feed(-1, -1, -1, hole, -1), 19);
        }
        Checks.due("feed of none that is 0", new BalloonStall().feed(LEAST | 0x010101, -1, MOST, -1, -1), 20);
    }

    // "of each number the highest first"
    private static void theHighestByteComesFirst() {
        BalloonStall x = Checks.withSorts();
        x.feed(0x23302031, 0x00203200, 0x20330020, 0x00000034, 0x20352036);
        Checks.due("#0 1 2 3 4 5 6", x.figure(), 0);
        for (int i = 0; i < 6; i++) {
            Checks.due("length " + i, x.bubble(0, i, 0), i + 1);
        }
    }

    private static Supplier<BalloonStall> tapeOf(int bytes) {
        return () -> {
            BalloonStall x = Checks.withSorts();
            Checks.feed(x, "#0 5" + " ".repeat(bytes - 4));
            return x;
        };
    }

    // "NONE: more than 200."
    private static void twoHundredBytesAtMost() {
        int nineteen = -1 << 8;
        Checks.due("181 and 19 bytes", tapeOf(181).get().feed(-1, -1, nineteen, -1, -1), 200);
        Twins.none("181 and 20 bytes", tapeOf(181), x -> x.feed(-1, -1, -1, -1, -1));
        Checks.due("180 and 20 bytes", tapeOf(180).get().feed(-1, -1, -1, -1, -1), 200);
        Twins.none("182 and 19 bytes", tapeOf(182), x -> x.feed(-1, -1, nineteen, -1, -1));
        Checks.due("199 and 1 byte", tapeOf(199).get().feed(0, 0, 0, 0, 1), 200);
        Twins.none("199 and 2 bytes", tapeOf(199), x -> x.feed(1, 0, 0, 0, 1));
        Twins.none("200 and 1 byte", tapeOf(200), x -> x.feed(0, 0, 0, 0, 1));
        BalloonStall x = tapeOf(200).get();
        Checks.due("the text of 200 bytes", x.figure(), 0);
        Checks.due("the tape takes 20 again", x.feed(-1, -1, -1, -1, -1), 20);
    }

    private static void twoHundredBytesAreCountedWithoutThoseOf0() {
        Checks.due("200 and none", tapeOf(200).get().feed(0, 0, 0, 0, 0), 200);
        Checks.due("196 and 4 of 20", tapeOf(196).get().feed(1, 1, 0, 1, 1), 200);
        Twins.none("197 and 4 of 20", tapeOf(197), x -> x.feed(1, 1, 0, 1, 1));
    }

    // "False: n."
    private static void theTapeCanBeEnded() {
        for (int n : new int[] {LEAST, -1, 5, 6, 200, MOST}) {
            Twins.no("end(" + n + ") of 4 bytes", tapeOf(4), x -> x.end(n));
        }
        Checks.due("end(4) of 4 bytes", tapeOf(4).get().end(4), true);
        Checks.due("end(0) of 4 bytes", tapeOf(4).get().end(0), true);
        Checks.due("end(0) of none", new BalloonStall().end(0), true);
        Checks.due("end(1) of none", new BalloonStall().end(1), false);
        Checks.due("end(200) of 200", tapeOf(200).get().end(200), true);
        Checks.due("end(201) of 200", tapeOf(200).get().end(201), false);
        BalloonStall x = tapeOf(9).get();
        x.figure();
        Checks.due("end(1) behind a figure", x.end(1), false);
        Checks.due("end(0) behind a figure", x.end(0), true);
    }

    // "The TAPE has its first n bytes alone."
    private static void endAloneKeepsTheFirstBytes() {
        String text = "#0 5(6)7";
        int[] fault = {0, 1, 2, 3, -1, 5, 6, -1, -1};
        for (int n = 0; n <= text.length(); n++) {
            BalloonStall x = Checks.withSorts();
            Checks.feed(x, text);
            x.end(n);
            Checks.due("count(3) behind end(" + n + ")", x.count(3), n);
            Checks.due("fault behind end(" + n + ")", x.fault(0), fault[n]);
        }
        BalloonStall x = Checks.withSorts();
        Checks.feed(x, text);
        x.end(3);
        Checks.due("what was ended is gone", Checks.feed(x, "8"), 4);
        Checks.due("figure", x.figure(), 0);
        Checks.due("one bubble", x.many(0, 1), 1);
        Checks.due("of length 8", x.bubble(0, 0, 0), 8);
    }

    // "a FIGURE (0), a RULE (1). NONE: none. -2: no such sort."
    private static void faultsOfFiguresAndRulesAlone() {
        BalloonStall x = Checks.withSorts();
        Checks.feed(x, "#0a");
        Checks.due("fault(0) of a figure", x.fault(0), -1);
        Checks.due("fault(1) of a figure", x.fault(1), 0);
        x.end(0);
        Checks.feed(x, "w:1");
        Checks.due("fault(0) of a rule", x.fault(0), 0);
        Checks.due("fault(1) of a rule", x.fault(1), -1);
        for (int sort : new int[] {LEAST, -2, -1, 2, 3, MOST}) {
            Twins.refused("fault(" + sort + ")", Twins::busy, y -> y.fault(sort), -2);
        }
        Twins.none("a figure on the tape is no rule", tapeOf(9), BalloonStall::rule);
        Twins.none("a rule on the tape is no figure", EdgeTapeTest::ruleOnTape, BalloonStall::figure);
    }

    private static BalloonStall ruleOnTape() {
        BalloonStall x = Checks.withSorts();
        Checks.feed(x, "w:1");
        return x;
    }

    // "NONE for others."
    private static void countsOfFiveKinds() {
        BalloonStall x = Twins.busy();
        int[] want = {3, 3, 4, 8, 2};
        for (int what = 0; what < 5; what++) {
            Checks.due("count(" + what + ")", x.count(what), want[what]);
        }
        for (int what : new int[] {LEAST, -1, 5, 6, MOST}) {
            Twins.none("count(" + what + ")", Twins::busy, y -> y.count(what));
        }
    }
}
