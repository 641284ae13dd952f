import java.util.NoSuchElementException;
import java.util.Random;

/** Any calls with any arguments: only the three calls that may throw do, and only what the document names. */
public final class AnyCallsTest {
    private static final int[] EDGES = {-2, -1, 0, 1, 2, 3, 5, 6, 11, 12, 24, 30, 60, 61, 99, 100, 200, 999, 9999,
        Integer.MAX_VALUE, Integer.MIN_VALUE};
    private static final String[] TEXTS = {"#0 5(3 3)4", "#1 a 1 b 2 c 3 a/#0 b 4", "#0a", "#0 1 1 1 1 1 1 1 1 1 1 1",
        "#0 a 1 b 1 c 1 d 1 a 1 c/#0 b 2 d", "w:k>2?2;w:1", "w:!(l=h|k<3)&a>s?[l-h]*k/s", "w:h/9", "#0 (", "w:1?"};

    public static void main(String[] args) {
        for (int seed = 0; seed < 4000; seed++) {
            calls(new Random(seed));
        }
        Checks.close("AnyCallsTest");
    }

    private static int any(Random r) {
        int kind = r.nextInt(10);
        return kind == 0 ? r.nextInt() : kind < 3 ? EDGES[r.nextInt(EDGES.length)] : r.nextInt(6);
    }

    private static void calls(Random r) {
        BalloonStall x = new BalloonStall();
        for (int i = 0; i < 512; i++) {
            int call = r.nextInt(40);
            boolean mayThrow = call == 7 || call == 30 || call == 31;
            int thrown = 0;
            try {
                ask(x, call, r);
            } catch (NoSuchElementException e) {
                thrown = mayThrow && e.getMessage().contains("such") ? 0 : 1;
            } catch (RuntimeException e) {
                thrown = 1;
            }
            Checks.due("call " + call + " throws wrongly", thrown, 0);
        }
    }

    private static long ask(BalloonStall x, int call, Random r) {
        int a = any(r);
        int b = any(r);
        int c = any(r);
        int d = any(r);
        int e = any(r);
        switch (call) {
            case 0: return x.sort(5 + r.nextInt(196), r.nextInt(11), r.nextInt(101));
            case 1: return x.feed(a, b, c, d, e);
            case 2: return x.end(a) ? 1 : 0;
            case 3: return x.fault(a);
            case 4: return x.figure();
            case 5: return x.rule();
            case 6: return x.many(a, b);
            case 7: return x.bubble(a, b, c);
            case 8: return x.ends(a, b);
            case 9: return x.bursts(a, b);
            case 10: return x.rest(a, b);
            case 11: return x.hands(a);
            case 12: return x.holds(a, b);
            case 13: return x.plain(a);
            case 14: return x.pop(a, b, c);
            case 15: return x.weakest(a);
            case 16: return x.add(a, b, c, d);
            case 17: return x.alike(a, b);
            case 18: return x.match(a, b, c);
            case 19: return x.far(a, b, c);
            default: return askMore(x, call, r, new int[] {a, b, c, d, e});
        }
    }

    private static long askMore(BalloonStall x, int call, Random r, int[] v) {
        switch (call) {
            case 20: return x.span(v[0]);
            case 21: return x.strokes(v[0]);
            case 22: return x.made(v[0], v[1]);
            case 23: return x.set(v[0], v[1], v[2]);
            case 24: return x.twice(v[0]);
            case 25: return x.stock(v[0], v[1]) ? 1 : 0;
            case 26: return x.pace(v[0], v[1]) ? 1 : 0;
            case 27: return x.comes(v[0], v[1], v[2]);
            case 28: return r.nextInt(9) == 0 ? x.close() : x.count(v[0]);
            case 29: return x.run(r.nextLong());
            case 30: return x.guest(v[0], v[1]);
            case 31: return x.worth(v[0], v[1], v[2], v[3], v[4], any(r));
            case 32: return x.aged(v[0], v[1], v[2], v[3]);
            case 33: return x.falls(v[0], v[1], v[2]);
            case 34: return x.count(v[0]);
            case 35: return Checks.feed(x, TEXTS[r.nextInt(TEXTS.length)]);
            case 36: return Checks.rule(x, TEXTS[r.nextInt(TEXTS.length)]);
            default: return Checks.figure(x, TEXTS[r.nextInt(TEXTS.length)]);
        }
    }
}
