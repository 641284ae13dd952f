import java.lang.management.ManagementFactory;

/** What is made is never given back: a stall is small, and its calls make next to nothing. */
public final class RoomTest {
    public static void main(String[] args) {
        use(new BalloonStall());
        long before = allocated();
        BalloonStall x = new BalloonStall();
        long made = allocated() - before;
        Checks.due("bytes of a new stall " + made, made < 120_000, true);
        before = allocated();
        use(x);
        long more = allocated() - before;
        Checks.due("bytes of some 400 calls " + more, more < 2_000, true);
        Checks.close("RoomTest");
    }

    private static long allocated() {
        com.sun.management.ThreadMXBean bean = (com.sun.management.ThreadMXBean) ManagementFactory.getThreadMXBean();
        return bean.getThreadAllocatedBytes(Thread.currentThread().getId());
    }

    private static void use(BalloonStall x) {
        x.sort(200, 0, 50);
        x.sort(9, 1, 0);
        x.feed(0x23302061, 0x20312062, 0x20322063, 0x20332064, 0x20342061);
        x.fault(0);
        x.figure();
        x.feed(0x773A6B3E, 0x323F323B, 0x773A3100, 0, 0);
        x.fault(1);
        x.rule();
        x.plain(0);
        x.add(0, 1, 0, 0);
        x.stock(0, 99);
        for (int i = 0; i < 20; i++) {
            x.comes(i, i % 3, 999);
        }
        for (int i = 0; i < 10; i++) {
            for (int f = 0; f < 3; f++) {
                x.pop(f, 0, 0);
                x.weakest(f);
                x.alike(0, f);
                x.match(f, f, 0);
                x.span(f);
                x.made(f, f % 2);
                x.set(f, f % 2, 0);
                x.strokes(f);
                x.twice(f);
                x.aged(f, 0, 60, 0);
                x.falls(f, 0, 1);
            }
            x.run(i);
            x.worth(0, 1, 2, 3, 4, 5);
            x.fault(0);
        }
    }
}
