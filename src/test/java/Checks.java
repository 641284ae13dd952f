import java.util.NoSuchElementException;
import java.util.function.LongSupplier;

/** What the tests share: telling wrong answers, and texts instead of numbers for the tape. */
final class Checks {
    private static int right = 0;
    private static int wrong = 0;
    private static final int MOST_TOLD = 40;

    private Checks() {
    }

    static void due(String call, long got, long want) {
        if (got == want) {
            right++;
            return;
        }
        tellWrong(call + " answered " + got + ", due is " + want);
    }

    static void due(String call, boolean got, boolean want) {
        due(call, got ? 1 : 0, want ? 1 : 0);
    }

    static void dueNoSuch(String call, LongSupplier asked) {
        long got;
        try {
            got = asked.getAsLong();
        } catch (NoSuchElementException e) {
            right++;
            return;
        }
        tellWrong(call + " answered " + got + ", due is NoSuchElementException");
    }

    /** A broken promise can make thousands of answers wrong: the first ones are enough. */
    private static void tellWrong(String told) {
        wrong++;
        if (wrong <= MOST_TOLD) {
            System.out.println(told);
        }
    }

    static void close(String name) {
        System.out.println(name + ": " + right + " answers as due, " + wrong + " not");
        if (wrong != 0) {
            System.exit(1);
        }
    }

    static int number(String text, int start) {
        int four = 0;
        for (int i = start; i < start + 4; i++) {
            four = four << 8 | (i < text.length() ? text.charAt(i) & 255 : 0);
        }
        return four;
    }

    /** The last answer of feed. */
    static int feed(BalloonStall x, String text) {
        int length = x.feed(0, 0, 0, 0, 0);
        for (int i = 0; i < text.length(); i += 20) {
            length = x.feed(number(text, i), number(text, i + 4), number(text, i + 8),
                number(text, i + 12), number(text, i + 16));
        }
        return length;
    }

    static int figure(BalloonStall x, String text) {
        x.end(0);
        feed(x, text);
        return x.figure();
    }

    static int rule(BalloonStall x, String text) {
        x.end(0);
        feed(x, text);
        return x.rule();
    }

    static int fault(BalloonStall x, int sort, String text) {
        x.end(0);
        feed(x, text);
        return x.fault(sort);
    }

    /** With sorts 0 (air 200, strain 0), 1 (air 20, strain 3, chance 50) and 2 (air 5, strain 9, chance 99). */
    static BalloonStall withSorts() {
        BalloonStall x = new BalloonStall();
        x.sort(200, 0, 0);
        x.sort(20, 3, 50);
        x.sort(5, 9, 99);
        return x;
    }
}
