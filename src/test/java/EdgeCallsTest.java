import java.lang.management.ManagementFactory;
import java.util.NoSuchElementException;
import java.util.function.IntToLongFunction;

/** "An object is used for at most 512 calls": the 512th is answered as the first, and all of them fit into the room. */
public final class EdgeCallsTest {
    private static final int CALLS = 512;
    /** The room holds 7.3 million elements; a call that throws makes an exception, and no other makes anything. */
    private static final long MOST_BYTES = 4_000_000;

    public static void main(String[] args) {
        the512thCallIsAnswered();
        the512thCallMayBeTheFirstOfItsKind();
        refusedCallsUpToThe512th();
        dearCallsFitIntoTheRoom();
        Checks.close("EdgeCallsTest");
    }

    private static BalloonStall rich() {
        BalloonStall x = Checks.withSorts();
        Checks.figure(x, "#0 1 2 3 4 5 6 7 8 9 9");
        Checks.figure(x, "#0 a 1 b 1 c 1 d 1 e 1 f 1 g 1 h 1 a/#0 a 1 e/#0 b 1 f/#0 c 1 g/#0 d 1 h");
        Checks.figure(x, "#1" + " 1".repeat(24));
        Checks.rule(x, "w:k>2?2;w:h/9+l*[s-a]/[l+1]");
        Checks.rule(x, "w:1");
        x.stock(0, 99);
        x.stock(1, 99);
        x.comes(0, 0, 999);
        x.comes(1, 2, 999);
        return x;
    }

    /** All calls of one kind, counted with those that made the stall. */
    private static void repeated(String call, BalloonStall x, IntToLongFunction asked, long want) {
        for (int i = 40; i <= CALLS; i++) {
            Checks.due(call + ", call " + i, asked.applyAsLong(i), want);
        }
    }

    private static void the512thCallIsAnswered() {
        BalloonStall a = rich();
        repeated("made(0, 0)", a, i -> a.made(0, 0), 1);
        BalloonStall b = rich();
        repeated("match(1, 1, 7)", b, i -> b.match(1, 1, 7), 7);
        BalloonStall c = rich();
        repeated("falls(2, 1, 2)", c, i -> c.falls(2, 1, 2), 1);
        BalloonStall d = rich();
        repeated("span(2)", d, i -> d.span(2), 24);
        BalloonStall e = rich();
        repeated("weakest(2)", e, i -> e.weakest(2), 0);
        BalloonStall f = rich();
        repeated("run", f, i -> f.run(i), 2);
        BalloonStall g = rich();
        repeated("worth", g, i -> g.worth(0, 7, 18, 2, 3, 5), 1);
        BalloonStall h = rich();
        h.close();
        repeated("comes and close", h, i -> i % 2 == 0 ? h.comes(i, 0, 0) : h.close() - 1, 0);
        BalloonStall k = rich();
        repeated("feed and end", k, i -> i % 2 == 0 ? k.feed(-1, -1, -1, -1, -1) - 20 : k.end(0) ? 0 : 1, 0);
    }

    /** Each of these is the 512th call of an object that was asked little before. */
    private static void the512thCallMayBeTheFirstOfItsKind() {
        BalloonStall[] all = new BalloonStall[10];
        for (int n = 0; n < all.length; n++) {
            all[n] = rich();
            for (int i = 40; i < CALLS; i++) {
                Checks.due("count(1)", all[n].count(1), 3);
            }
        }
        Checks.due("sort", all[0].sort(9, 9, 9), 3);
        Checks.due("plain", all[1].plain(2), 3);
        Checks.due("add", all[2].add(0, 1, 0, 0), 3);
        Checks.due("comes", all[3].comes(9, 0, 0), 2);
        Checks.due("run", all[4].run(9), 2);
        Checks.due("made", all[5].made(0, 1), 5);
        Checks.due("twice", all[6].twice(1), 3);
        Checks.due("falls", all[7].falls(1, 1, 2), 1);
        Checks.due("alike", all[8].alike(0, 1), -1);
        Checks.due("feed", all[9].feed(1, 1, 1, 1, 1), 5);
    }

    private static void refusedCallsUpToThe512th() {
        BalloonStall x = rich();
        for (int i = 40; i < CALLS; i++) {
            Checks.dueNoSuch("bubble", () -> x.bubble(3, 0, 0));
        }
        Checks.due("the 512th call", x.bubble(2, 23, 2), 24);
    }

    private static long allocated() {
        com.sun.management.ThreadMXBean bean = (com.sun.management.ThreadMXBean) ManagementFactory.getThreadMXBean();
        return bean.getThreadAllocatedBytes(Thread.currentThread().getId());
    }

    private static void dearCallsFitIntoTheRoom() {
        int[] answers = new int[1];
        for (int round = 0; round < 2; round++) {
            long before = allocated();
            BalloonStall x = new BalloonStall();
            x.sort(200, 0, 50);
            for (int i = 1; i < CALLS; i++) {
                answers[0] += throwing(x, i);
            }
            long bytes = allocated() - before;
            Checks.due("bytes of 512 calls, most of which throw: " + bytes, bytes < MOST_BYTES, true);
        }
    }

    private static int throwing(BalloonStall x, int i) {
        try {
            return i % 3 == 0 ? x.bubble(0, 0, 0) : i % 3 == 1 ? x.guest(0, 0) : x.worth(0, 0, 0, 0, 0, 0);
        } catch (NoSuchElementException e) {
            return 1;
        }
    }
}
