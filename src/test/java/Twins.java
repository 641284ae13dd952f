import java.util.ArrayList;
import java.util.List;
import java.util.NoSuchElementException;
import java.util.function.Predicate;
import java.util.function.Supplier;
import java.util.function.ToLongFunction;

/**
 * A refused call changes nothing: of two stalls made alike, the call is made to one alone, and behind it both are
 * asked the same things and go on alike.
 */
final class Twins {
    private static final int MOST_CALLS = 512;

    private Twins() {
    }

    static void refused(String call, Supplier<BalloonStall> made, ToLongFunction<BalloonStall> asked, long want) {
        BalloonStall x = made.get();
        Checks.due(call, asked.applyAsLong(x), want);
        same(call, x, made.get());
    }

    static void none(String call, Supplier<BalloonStall> made, ToLongFunction<BalloonStall> asked) {
        refused(call, made, asked, BalloonStall.NONE);
    }

    static void no(String call, Supplier<BalloonStall> made, Predicate<BalloonStall> asked) {
        refused(call, made, x -> asked.test(x) ? 1 : 0, 0);
    }

    static void noSuch(String call, Supplier<BalloonStall> made, ToLongFunction<BalloonStall> asked) {
        BalloonStall x = made.get();
        Checks.dueNoSuch(call, () -> asked.applyAsLong(x));
        same(call, x, made.get());
    }

    private static void same(String call, BalloonStall x, BalloonStall y) {
        List<Long> here = new Answers(x).all();
        List<Long> there = new Answers(y).all();
        int first = 0;
        while (first < there.size() && first < here.size() && here.get(first).equals(there.get(first))) {
            first++;
        }
        boolean alike = here.size() == there.size() && first == here.size();
        Checks.due(call + ": the first answer that it changed", alike ? -1 : first, -1);
        Checks.due(call + ": the calls behind it are " + here.size(), here.size() < MOST_CALLS - 100, true);
    }

    /** Three sorts, three figures, two rules, guests and a run, and a tape on which a figure is begun. */
    static BalloonStall busy() {
        BalloonStall x = Checks.withSorts();
        Checks.figure(x, "#0 5(3 3)4");
        Checks.figure(x, "#1 5 2/#2 a 3");
        Checks.figure(x, "#0 b");
        Checks.rule(x, "w:k>2?2;w:1");
        Checks.rule(x, "w:h*l/[s+1]");
        x.stock(0, 5);
        x.stock(1, 9);
        x.stock(2, 99);
        x.pace(2, 1);
        x.comes(3, 0, 10);
        x.comes(4, 1, 10);
        x.comes(4, 0, 40);
        x.run(11);
        x.comes(9, 2, 400);
        Checks.feed(x, "#2 6(7 a");
        return x;
    }

    /** What a stall tells of itself, and what it answers as it goes on. */
    private static final class Answers {
        private final BalloonStall x;
        private final List<Long> told = new ArrayList<>();

        Answers(BalloonStall x) {
            this.x = x;
        }

        List<Long> all() {
            for (int what = 0; what < 5; what++) {
                told.add((long) x.count(what));
            }
            told.add((long) x.fault(0));
            told.add((long) x.fault(1));
            guests();
            figure(0);
            figure(1);
            figure(x.count(1) - 1);
            rules();
            goesOn();
            return told;
        }

        private void guests() {
            for (int g = 0; g < 4; g++) {
                for (int what = 0; what < 4; what++) {
                    told.add(guest(g, what));
                }
            }
        }

        private long guest(int g, int what) {
            try {
                return x.guest(g, what);
            } catch (NoSuchElementException e) {
                return -99;
            }
        }

        private void figure(int f) {
            for (int what = 0; what < 6; what++) {
                told.add((long) x.many(f, what));
            }
            for (int i = 0; i < Math.min(4, x.many(f, 1)); i++) {
                for (int what = 0; what < 5; what++) {
                    told.add((long) x.bubble(f, i, what));
                }
                told.add((long) x.pop(f, i, 0));
                told.add((long) x.holds(f, i));
            }
            for (int p = 0; p < 4; p++) {
                told.add((long) x.ends(f, p));
                told.add((long) x.match(0, f, p));
                told.add((long) x.far(f, 0, p));
            }
            told.add((long) x.rest(f, 0));
            told.add((long) x.bursts(f, 1));
            told.add((long) x.hands(f));
            told.add((long) x.weakest(f));
            told.add((long) x.span(f));
            told.add((long) x.strokes(f));
            told.add((long) x.made(f, 1));
            told.add((long) x.set(f, 1, 0));
            told.add((long) x.twice(f));
        }

        private void rules() {
            for (int r = 0; r < 6; r++) {
                told.add(x.count(4) > r ? x.worth(r, 7, 2, 5, 3, 100) : -99L);
                told.add((long) x.aged(0, r, 2, 0));
                told.add((long) x.falls(0, r, 2));
            }
        }

        private void goesOn() {
            told.add((long) x.run(77));
            guests();
            told.add((long) x.figure());
            told.add((long) x.rule());
            told.add((long) x.feed(0x20382920, 0x62000000, 0, 0, 0));
            told.add((long) x.fault(0));
            told.add((long) x.figure());
            figure(x.count(1) - 1);
            told.add((long) x.plain(0));
            told.add((long) x.comes(8, 0, 400));
            told.add((long) x.comes(9, 1, 400));
            told.add((long) x.run(78));
            guests();
            told.add((long) x.sort(9, 9, 9));
            told.add((long) x.close());
        }
    }
}
