import java.math.BigInteger;
import java.util.function.Supplier;

/** The boundary cases of promises 27 to 32, sentence by sentence: stock, pace, guests, runs. */
public final class EdgeStallTest {
    private static final int MOST = Integer.MAX_VALUE;
    private static final int LEAST = Integer.MIN_VALUE;
    private static final int SERVED = 0;
    private static final int LEFT = 1;
    private static final int TURNED = 2;
    private static final int UNFINISHED = 3;

    public static void main(String[] args) {
        stockIsFrom0To99();
        stockIs0AtFirst();
        stockLastsForAsMany();
        paceOfABubbleIsFrom1To9();
        paceOfABalloonIsFrom0To9();
        paceIs1And0AtFirst();
        ticksAreFrom0To9999();
        patienceIsFrom0To999();
        noSuchFigure();
        notAheadOfTheOneBefore();
        thirtyGuestsAtMost();
        closeLeavesNobody();
        closeKeepsStockAndPace();
        runOfNobody();
        theTurnBeginsAtTheLaterTick();
        leftIfLaterByMoreThanItsPatience();
        leftComesAheadOfTurned();
        turnedIfLessIsThere();
        turnedIfLessOfSomeSort();
        leftAndTurnedEndAtOnce();
        balloonsWithoutBubbles();
        poppedBelowItsChance();
        chance0And99();
        unfinishedIfNoneIsThere();
        whatIsPoppedStaysTaken();
        theSeedGoesRoundIn64Bits();
        theSeedGoesOnFromGuestToGuest();
        noStepsForThoseWhoGo();
        eachRunBeginsAnew();
        guestsOfTheLatestRun();
        fourKindsOfAGuest();
        Checks.close("EdgeStallTest");
    }

    private static BalloonStall stall(int sort1Chance, String... texts) {
        BalloonStall x = new BalloonStall();
        x.sort(200, 0, 0);
        x.sort(200, 0, sort1Chance);
        for (String text : texts) {
            Checks.due("fault of " + text, Checks.fault(x, 0, text), -1);
            x.figure();
        }
        return x;
    }

    private static void went(BalloonStall x, int guest, int... want) {
        for (int what = 0; what < want.length; what++) {
            Checks.due("guest(" + guest + ", " + what + ")", x.guest(guest, what), want[what]);
        }
    }

    // "a STOCK of each SORT (0 .. 99"; "False: no such ones."
    private static void stockIsFrom0To99() {
        for (int many : new int[] {LEAST, -1, 100, MOST}) {
            Twins.no("stock(0, " + many + ")", Twins::busy, x -> x.stock(0, many));
            Twins.no("stock(2, " + many + ")", Twins::busy, x -> x.stock(2, many));
        }
        for (int sort : new int[] {LEAST, -1, 3, 5, 6, MOST}) {
            Twins.no("stock(" + sort + ", 1)", Twins::busy, x -> x.stock(sort, 1));
        }
        for (int sort = 0; sort < 3; sort++) {
            Checks.due("stock(" + sort + ", 0)", Twins.busy().stock(sort, 0), true);
            Checks.due("stock(" + sort + ", 99)", Twins.busy().stock(sort, 99), true);
        }
        BalloonStall x = new BalloonStall();
        for (int sort = 0; sort < 6; sort++) {
            Checks.due("stock of a sort to come", x.stock(sort, 9), false);
            x.sort(9, 9, 9);
            Checks.due("stock of a sort that came", x.stock(sort, 9), true);
        }
        Checks.due("stock of a seventh sort", x.stock(6, 9), false);
    }

    // "0 at first)"
    private static void stockIs0AtFirst() {
        BalloonStall x = stall(0, "#0 1", "#1 1");
        x.comes(0, 0, 0);
        x.comes(0, 1, 0);
        Checks.due("run without a stock", x.run(1), 0);
        went(x, 0, TURNED, 0, 0, 0);
        went(x, 1, TURNED, 0, 0, 0);
        x.stock(1, 1);
        Checks.due("run with a stock of one sort", x.run(1), 1);
        went(x, 0, TURNED, 0, 0, 0);
        went(x, 1, SERVED, 0, 1, 1);
        x.stock(1, 0);
        Checks.due("run with a stock of 0", x.run(1), 0);
    }

    private static void stockLastsForAsMany() {
        BalloonStall x = stall(0, "#0 a/#0 a/#0 a/#0 a/#0 a/#0 a", "#0 a/#0 a/#0 a", "#0 a/#0 a/#0 a/#0 a");
        x.stock(0, 99);
        for (int g = 0; g < 16; g++) {
            x.comes(0, 0, 0);
        }
        x.comes(0, 2, 0);
        x.comes(0, 1, 0);
        x.comes(0, 1, 0);
        Checks.due("16 of six and one of three", x.run(1), 17);
        went(x, 15, SERVED, 0, 0, 6);
        went(x, 16, TURNED, 0, 0, 0);
        went(x, 17, SERVED, 0, 0, 3);
        went(x, 18, TURNED, 0, 0, 0);
        x.stock(0, 98);
        Checks.due("with one less", x.run(1), 16);
    }

    private static BalloonStall paced() {
        BalloonStall x = stall(0, "#0 1 1/#0 1");
        x.stock(0, 2);
        x.pace(4, 7);
        x.comes(0, 0, 0);
        return x;
    }

    private static void pace(int bubble, int balloon, boolean done) {
        String call = "pace(" + bubble + ", " + balloon + ")";
        if (done) {
            BalloonStall x = paced();
            Checks.due(call, x.pace(bubble, balloon), true);
            x.run(1);
            went(x, 0, SERVED, 0, 3 * bubble + 2 * balloon, 2);
        } else {
            Twins.no(call, Twins::busy, x -> x.pace(bubble, balloon));
            BalloonStall x = paced();
            Checks.due(call, x.pace(bubble, balloon), false);
            x.run(1);
            went(x, 0, SERVED, 0, 26, 2);
        }
    }

    // "a PACE: ticks for a BUBBLE (1 .. 9)"; "False: out of bounds."
    private static void paceOfABubbleIsFrom1To9() {
        for (int bubble : new int[] {LEAST, -1, 0, 10, MOST}) {
            pace(bubble, 3, false);
        }
        pace(1, 3, true);
        pace(9, 3, true);
    }

    // "for a BALLOON (0 .. 9)"
    private static void paceOfABalloonIsFrom0To9() {
        for (int balloon : new int[] {LEAST, -1, 10, MOST}) {
            pace(3, balloon, false);
        }
        pace(3, 0, true);
        pace(3, 9, true);
        pace(9, 9, true);
        pace(1, 0, true);
    }

    // "(1 and 0 at first)"
    private static void paceIs1And0AtFirst() {
        BalloonStall x = stall(0, "#0 1 1/#0 1");
        x.stock(0, 2);
        x.comes(0, 0, 0);
        x.run(1);
        went(x, 0, SERVED, 0, 3, 2);
    }

    // "come at a tick (0 .. 9,999"
    private static void ticksAreFrom0To9999() {
        for (int tick : new int[] {LEAST, -1, 10000, MOST}) {
            Twins.none("comes(" + tick + ", 0, 0)", Twins::busy, x -> x.comes(tick, 0, 0));
            Twins.none("comes(" + tick + ", 0, 0) as the first", () -> stall(0, "#0 1"), x -> x.comes(tick, 0, 0));
        }
        BalloonStall x = stall(0, "#0 1");
        x.stock(0, 9);
        Checks.due("comes(0, 0, 0)", x.comes(0, 0, 0), 0);
        Checks.due("comes(9999, 0, 0)", x.comes(9999, 0, 0), 1);
        x.run(1);
        went(x, 0, SERVED, 0, 1, 1);
        went(x, 1, SERVED, 9999, 10000, 1);
    }

    // "have PATIENCE (0 .. 999)"
    private static void patienceIsFrom0To999() {
        for (int patience : new int[] {LEAST, -1, 1000, MOST}) {
            Twins.none("comes(9, 0, " + patience + ")", Twins::busy, x -> x.comes(9, 0, patience));
        }
        Checks.due("comes(9, 0, 0)", Twins.busy().comes(9, 0, 0), 4);
        Checks.due("comes(9, 0, 999)", Twins.busy().comes(9, 0, 999), 4);
    }

    // "NONE: no such FIGURE"
    private static void noSuchFigure() {
        for (int figure : new int[] {LEAST, -1, 3, 11, 12, MOST}) {
            Twins.none("comes(9, " + figure + ", 0)", Twins::busy, x -> x.comes(9, figure, 0));
        }
        Checks.due("comes(9, 2, 0)", Twins.busy().comes(9, 2, 0), 4);
        Checks.due("comes without figures", new BalloonStall().comes(0, 0, 0), -1);
    }

    // "not ahead of the one told before"
    private static void notAheadOfTheOneBefore() {
        Twins.none("comes at 8 behind one at 9", Twins::busy, x -> x.comes(8, 0, 0));
        Twins.none("comes at 0 behind one at 9", Twins::busy, x -> x.comes(0, 0, 0));
        Checks.due("comes at 9 behind one at 9", Twins.busy().comes(9, 0, 0), 4);
        Checks.due("comes at 10 behind one at 9", Twins.busy().comes(10, 0, 0), 4);
        BalloonStall x = stall(0, "#0 1");
        x.comes(9999, 0, 0);
        Checks.due("comes at 9998 behind 9999", x.comes(9998, 0, 0), -1);
        Checks.due("comes at 9999 behind 9999", x.comes(9999, 0, 0), 1);
        x.close();
        Checks.due("comes at 0 behind close", x.comes(0, 0, 0), 0);
        Checks.due("comes(7, 1, 0), no such figure", x.comes(7, 1, 0), -1);
        Checks.due("one refused is not the one before", x.comes(5, 0, 0), 1);
    }

    private static Supplier<BalloonStall> guests(int many) {
        return () -> {
            BalloonStall x = stall(50, "#0 1", "#1 2 2");
            x.stock(0, 99);
            x.stock(1, 99);
            for (int g = 0; g < many; g++) {
                x.comes(g, g % 2, 999);
            }
            return x;
        };
    }

    // "GUESTS (30 at most)"
    private static void thirtyGuestsAtMost() {
        Checks.due("the 30th guest", guests(29).get().comes(40, 0, 0), 29);
        Twins.none("a 31st guest", guests(30), x -> x.comes(40, 0, 0));
        BalloonStall x = guests(30).get();
        Checks.due("guests", x.count(2), 30);
        Checks.due("run of 30", x.run(3), 30);
        Checks.due("the 30th went", x.guest(29, 0), SERVED);
        Checks.dueNoSuch("guest(30, 0)", () -> x.guest(30, 0));
        Checks.due("close", x.close(), 30);
        Checks.due("comes behind close", x.comes(0, 0, 0), 0);
    }

    // "No GUESTS (nor any of a RUN): how many there were."
    private static void closeLeavesNobody() {
        Checks.due("close of a new stall", new BalloonStall().close(), 0);
        BalloonStall x = guests(2).get();
        x.run(1);
        x.comes(50, 0, 0);
        Checks.due("close", x.close(), 3);
        Checks.due("guests", x.count(2), 0);
        for (int g = 0; g < 3; g++) {
            int guest = g;
            Checks.dueNoSuch("guest(" + g + ", 0) behind close", () -> x.guest(guest, 0));
        }
        Checks.due("close again", x.close(), 0);
        Checks.due("run behind close", x.run(1), 0);
        Checks.dueNoSuch("guest(0, 0) behind that", () -> x.guest(0, 0));
    }

    private static void closeKeepsStockAndPace() {
        BalloonStall x = paced();
        x.close();
        x.comes(1, 0, 0);
        Checks.due("run", x.run(1), 1);
        went(x, 0, SERVED, 1, 27, 2);
        Checks.due("figures", x.count(1), 1);
        Checks.due("sorts", x.count(0), 2);
    }

    private static void runOfNobody() {
        Checks.due("run(0) of a new stall", new BalloonStall().run(0), 0);
        Checks.due("run of nobody", stall(0, "#0 1").run(Long.MIN_VALUE), 0);
        BalloonStall x = stall(0, "#0 1");
        x.run(1);
        Checks.dueNoSuch("guest(0, 0) of nobody", () -> x.guest(0, 0));
    }

    // "at the tick at which the stall is free or it came, the later one"
    private static void theTurnBeginsAtTheLaterTick() {
        BalloonStall x = stall(0, "#0 1 1 1 1");
        x.stock(0, 99);
        int[] came = {5, 8, 13, 17, 22};
        int[] began = {5, 9, 13, 17, 22};
        for (int tick : came) {
            x.comes(tick, 0, 9);
        }
        Checks.due("run", x.run(1), 5);
        for (int g = 0; g < came.length; g++) {
            went(x, g, SERVED, began[g], began[g] + 4, 1);
        }
    }

    // "If that is later than it came by more than its PATIENCE: it LEFT (1)."
    private static void leftIfLaterByMoreThanItsPatience() {
        for (int patience = 0; patience < 4; patience++) {
            for (int came = 1; came <= 6; came++) {
                BalloonStall x = stall(0, "#0 1 1 1 1");
                x.stock(0, 9);
                x.comes(0, 0, 0);
                x.comes(came, 0, patience);
                boolean left = 4 - came > patience;
                Checks.due("run", x.run(1), left ? 1 : 2);
                int begins = Math.max(4, came);
                went(x, 1, left ? LEFT : SERVED, begins, left ? begins : begins + 4, left ? 0 : 1);
            }
        }
        BalloonStall x = stall(0, "#0" + " 1".repeat(24));
        x.stock(0, 9);
        x.pace(9, 9);
        for (int g = 0; g < 5; g++) {
            x.comes(0, 0, 999);
        }
        x.comes(126, 0, 999);
        x.comes(125, 0, 999);
        Checks.due("run", x.run(1), 6);
        went(x, 4, SERVED, 900, 1125, 1);
        went(x, 5, SERVED, 1125, 1350, 1);
        x.close();
        for (int g = 0; g < 5; g++) {
            x.comes(0, 0, 999);
        }
        x.comes(125, 0, 999);
        Checks.due("run", x.run(1), 5);
        went(x, 5, LEFT, 1125, 1125, 0);
    }

    private static void leftComesAheadOfTurned() {
        BalloonStall x = stall(0, "#0 1 1", "#1 1");
        x.stock(0, 9);
        x.comes(0, 0, 0);
        x.comes(1, 1, 0);
        x.comes(1, 1, 1);
        x.run(1);
        went(x, 1, LEFT, 2, 2, 0);
        went(x, 2, TURNED, 2, 2, 0);
    }

    // "Else if of some SORT less is there than it needs BALLOONS: it is TURNED away (2)."
    private static void turnedIfLessIsThere() {
        for (int many = 0; many <= 4; many++) {
            BalloonStall x = stall(0, "#0 1/#0 1/#0 1");
            x.stock(0, many);
            x.comes(0, 0, 0);
            Checks.due("run with a stock of " + many, x.run(1), many >= 3 ? 1 : 0);
            went(x, 0, many >= 3 ? SERVED : TURNED, 0, many >= 3 ? 3 : 0, many >= 3 ? 3 : 0);
        }
    }

    private static void turnedIfLessOfSomeSort() {
        for (int many0 = 0; many0 <= 2; many0++) {
            for (int many1 = 1; many1 <= 3; many1++) {
                BalloonStall x = stall(0, "#1 1/#0 a/#1 1");
                x.stock(0, many0);
                x.stock(1, many1);
                x.comes(0, 0, 0);
                boolean there = many0 >= 1 && many1 >= 2;
                Checks.due("run with " + many0 + " and " + many1, x.run(1), there ? 1 : 0);
                went(x, 0, there ? SERVED : TURNED, 0, there ? 2 : 0, there ? 3 : 0);
            }
        }
    }

    // "Its turn ends at once (1, 2) or as the last tick for it went by; the stall is free then."
    private static void leftAndTurnedEndAtOnce() {
        BalloonStall x = stall(0, "#0 1 1 1", "#1 1 1 1");
        x.stock(0, 9);
        x.comes(0, 0, 0);
        x.comes(1, 0, 1);
        x.comes(2, 1, 9);
        x.comes(3, 0, 0);
        x.comes(20, 1, 0);
        x.comes(20, 0, 0);
        Checks.due("run", x.run(1), 3);
        went(x, 0, SERVED, 0, 3, 1);
        went(x, 1, LEFT, 3, 3, 0);
        went(x, 2, TURNED, 3, 3, 0);
        went(x, 3, SERVED, 3, 6, 1);
        went(x, 4, TURNED, 20, 20, 0);
        went(x, 5, SERVED, 20, 23, 1);
    }

    private static void balloonsWithoutBubbles() {
        BalloonStall x = stall(0, "#0 a/#0 a/#1 a");
        x.stock(0, 2);
        x.stock(1, 1);
        x.comes(7, 0, 0);
        Checks.due("run", x.run(1), 1);
        went(x, 0, SERVED, 7, 7, 3);
        x.pace(9, 5);
        x.run(1);
        went(x, 0, SERVED, 7, 22, 3);
    }

    private static BigInteger stepped(BigInteger x) {
        return x.multiply(new BigInteger("6364136223846793005")).add(new BigInteger("1442695040888963407"))
            .mod(BigInteger.ONE.shiftLeft(64));
    }

    private static BigInteger told(long seed) {
        return BigInteger.valueOf(seed).mod(BigInteger.ONE.shiftLeft(64));
    }

    /** What is held against the CHANCE at the n-th step, the first one being 1. */
    private static int at(long seed, int n) {
        BigInteger x = told(seed);
        for (int i = 0; i < n; i++) {
            x = stepped(x);
        }
        return x.shiftRight(33).mod(BigInteger.valueOf(100)).intValueExact();
    }

    // "if (x shifted right by 33, without sign) modulo 100 is below its SORT's CHANCE, it POPS"
    private static void poppedBelowItsChance() {
        int[] chances = {1, 2, 50, 98, 99};
        for (int chance : chances) {
            int seen = 0;
            for (long seed = 0; seen != 3 && seed < 100_000; seed++) {
                int first = at(seed, 1);
                if (first != chance && first != chance - 1) {
                    continue;
                }
                seen |= first == chance ? 1 : 2;
                BalloonStall x = stall(chance, "#1 1");
                x.stock(1, 1);
                x.comes(0, 0, 0);
                boolean pops = first < chance;
                Checks.due("run(" + seed + ") by chance " + chance + " at " + first, x.run(seed), pops ? 0 : 1);
                went(x, 0, pops ? UNFINISHED : SERVED, 0, 1, 1);
            }
            Checks.due("both sides seen of " + chance, seen, 3);
        }
    }

    private static void chance0And99() {
        boolean popped99 = false;
        boolean made99 = false;
        for (long seed = -300; seed < 300; seed++) {
            BalloonStall x = stall(99, "#0 1", "#1 1");
            x.stock(0, 1);
            x.stock(1, 1);
            x.comes(0, 0, 0);
            x.comes(1, 1, 0);
            x.run(seed);
            went(x, 0, SERVED, 0, 1, 1);
            boolean pops = at(seed, 2) < 99;
            went(x, 1, pops ? UNFINISHED : SERVED, 1, 2, 1);
            popped99 |= pops;
            made99 |= !pops;
        }
        Checks.due("by chance 99 some pop", popped99, true);
        Checks.due("by chance 99 some do not", made99, true);
    }

    private static long seedThatPops(int times, int chance) {
        for (long seed = 0; seed < 100_000; seed++) {
            int n = 1;
            while (n <= times && at(seed, n) < chance) {
                n++;
            }
            if (n == times + 1 && at(seed, n) >= chance) {
                return seed;
            }
        }
        return -1;
    }

    // "one is taken from what is there (if there is none: it goes UNFINISHED, 3)"
    private static void unfinishedIfNoneIsThere() {
        long seed = seedThatPops(3, 50);
        for (int many = 1; many <= 5; many++) {
            BalloonStall x = stall(50, "#1 1 1");
            x.pace(3, 4);
            x.stock(1, many);
            x.comes(2, 0, 0);
            x.comes(2, 0, 999);
            int taken = Math.min(4, many);
            boolean made = many >= 4;
            x.run(seed);
            went(x, 0, made ? SERVED : UNFINISHED, 2, 2 + 10 * taken, taken);
            if (many <= 4) {
                went(x, 1, TURNED, 2 + 10 * taken, 2 + 10 * taken, 0);
            }
        }
    }

    // "What is popped stays taken."
    private static void whatIsPoppedStaysTaken() {
        long seed = seedThatPops(2, 50);
        BalloonStall x = stall(50, "#1 1/#0 1 1", "#0 1", "#1 1");
        x.stock(0, 2);
        x.stock(1, 2);
        x.comes(0, 0, 0);
        x.comes(0, 2, 9);
        x.comes(0, 1, 9);
        x.comes(0, 1, 9);
        x.comes(0, 1, 9);
        Checks.due("run", x.run(seed), 2);
        went(x, 0, UNFINISHED, 0, 2, 2);
        went(x, 1, TURNED, 2, 2, 0);
        went(x, 2, SERVED, 2, 3, 1);
        went(x, 3, SERVED, 3, 4, 1);
        went(x, 4, TURNED, 4, 4, 0);
        x.stock(1, 3);
        Checks.due("run with one more", x.run(seed), 2);
        went(x, 0, SERVED, 0, 5, 4);
        went(x, 1, TURNED, 5, 5, 0);
        went(x, 2, SERVED, 5, 6, 1);
        went(x, 3, TURNED, 6, 6, 0);
    }

    private static void steps(long seed, int chance) {
        BalloonStall x = stall(chance, "#1 a/#1 a/#1 a/#1 a/#1 a/#1 a");
        x.stock(1, 99);
        x.pace(1, 1);
        x.comes(0, 0, 0);
        x.run(seed);
        int made = 0;
        int taken = 0;
        while (made < 6 && taken < 99) {
            taken++;
            made += at(seed, taken) >= chance ? 1 : 0;
        }
        went(x, 0, made == 6 ? SERVED : UNFINISHED, 0, taken, taken);
    }

    // "(64 bits, going round)"; "without sign"
    private static void theSeedGoesRoundIn64Bits() {
        long[] seeds = {Long.MIN_VALUE, Long.MIN_VALUE + 1, -1, 0, 1, Long.MAX_VALUE - 1, Long.MAX_VALUE, 1L << 32,
            -1L << 32, 0x5555555555555555L, 0xaaaaaaaaaaaaaaaaL};
        for (long seed : seeds) {
            steps(seed, 1);
            steps(seed, 30);
            steps(seed, 90);
        }
        boolean highBit = false;
        for (long seed = 0; seed < 50; seed++) {
            highBit |= stepped(told(seed)).testBit(63) && at(seed, 1) > 0;
            steps(seed, 1);
        }
        Checks.due("steps above the greatest long seen", highBit, true);
    }

    private static void theSeedGoesOnFromGuestToGuest() {
        for (long seed = 0; seed < 40; seed++) {
            BalloonStall x = stall(50, "#1 1");
            x.stock(1, 99);
            int n = 0;
            int free = 0;
            for (int g = 0; g < 5; g++) {
                x.comes(0, 0, 999);
            }
            x.run(seed);
            for (int g = 0; g < 5; g++) {
                int taken = 1;
                while (at(seed, n + taken) < 50) {
                    taken++;
                }
                went(x, g, SERVED, free, free + taken, taken);
                n += taken;
                free += taken;
            }
        }
    }

    private static void noStepsForThoseWhoGo() {
        for (long seed = 0; seed < 20; seed++) {
            BalloonStall x = stall(50, "#1 1", "#0 1");
            x.stock(1, 99);
            x.comes(0, 1, 0);
            x.comes(0, 0, 0);
            x.comes(0, 0, 0);
            x.comes(200, 0, 0);
            x.run(seed);
            int first = 1;
            while (at(seed, first) < 50) {
                first++;
            }
            int second = 1;
            while (at(seed, first + second) < 50) {
                second++;
            }
            went(x, 0, TURNED, 0, 0, 0);
            went(x, 1, SERVED, 0, first, first);
            went(x, 2, LEFT, first, first, 0);
            went(x, 3, SERVED, 200, 200 + second, second);
        }
    }

    // "RUN by a seed, with the STOCK as told"
    private static void eachRunBeginsAnew() {
        BalloonStall x = stall(50, "#1 1/#1 1");
        x.stock(1, 9);
        x.comes(0, 0, 0);
        int served = x.run(5);
        int ended = x.guest(0, 2);
        x.run(6);
        Checks.due("run(5) again", x.run(5), served);
        Checks.due("its end again", x.guest(0, 2), ended);
        BalloonStall y = stall(0, "#0 1");
        y.stock(0, 1);
        y.comes(3, 0, 0);
        for (int again = 0; again < 3; again++) {
            Checks.due("run with a stock of one", y.run(again), 1);
            went(y, 0, SERVED, 3, 4, 1);
        }
        Checks.due("guests stay", y.count(2), 1);
    }

    // "NoSuchElementException: no such ones (by that RUN)."
    private static void guestsOfTheLatestRun() {
        for (int g : new int[] {LEAST, -1, 3, 4, 29, 30, MOST}) {
            Twins.noSuch("guest(" + g + ", 0)", Twins::busy, x -> x.guest(g, 0));
        }
        BalloonStall x = stall(0, "#0 1");
        Checks.dueNoSuch("guest(0, 0) when new", () -> x.guest(0, 0));
        x.comes(0, 0, 0);
        Checks.dueNoSuch("guest(0, 0) ahead of a run", () -> x.guest(0, 0));
        x.run(1);
        went(x, 0, TURNED, 0, 0, 0);
        x.comes(1, 0, 0);
        Checks.dueNoSuch("guest(1, 0), who came behind the run", () -> x.guest(1, 0));
        x.stock(0, 2);
        went(x, 0, TURNED, 0, 0, 0);
        x.run(1);
        went(x, 0, SERVED, 0, 1, 1);
        went(x, 1, SERVED, 1, 2, 1);
        Checks.dueNoSuch("guest(2, 0)", () -> x.guest(2, 0));
    }

    // "0 how it went (0 .. 3), 1 at which tick its turn began, 2 ended, 3 BALLOONS taken for it"
    private static void fourKindsOfAGuest() {
        for (int what : new int[] {LEAST, -1, 4, 5, MOST}) {
            Twins.noSuch("guest(0, " + what + ")", Twins::busy, x -> x.guest(0, what));
        }
        BalloonStall x = Twins.busy();
        went(x, 0, SERVED, 3, 12, 1);
    }
}
