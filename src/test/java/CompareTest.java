import java.math.BigInteger;
import java.util.ArrayList;
import java.util.HashMap;
import java.util.List;
import java.util.Random;

/** Compares BalloonStall with the Model on many texts made by chance (from fixed seeds). */
public final class CompareTest {
    private static final int[][] SORTS = {{200, 0, 0}, {20, 3, 50}, {5, 9, 99}, {40, 1, 10}, {12, 0, 75}};

    public static void main(String[] args) {
        for (int seed = 0; seed < 3000; seed++) {
            figureTexts(new Random(seed));
            ruleTexts(new Random(seed));
        }
        for (int seed = 0; seed < 500; seed++) {
            figures(new Random(seed));
            ageing(new Random(seed));
            stall(new Random(seed));
        }
        for (int seed = 0; seed < 300; seed++) {
            matches(new Random(seed));
        }
        Checks.close("CompareTest");
    }

    private static BalloonStall fresh() {
        BalloonStall x = new BalloonStall();
        for (int[] s : SORTS) {
            x.sort(s[0], s[1], s[2]);
        }
        return x;
    }

    // Texts made by chance.

    private static String figureText(Random r, int balloons, int bubbles, int most) {
        StringBuilder text = new StringBuilder();
        for (int b = 0; b < balloons; b++) {
            text.append(b == 0 ? "" : "/").append(blank(r)).append("#").append(blank(r));
            text.append(r.nextInt(SORTS.length)).append(blank(r));
            int share = (bubbles * (b + 1) / balloons) - (bubbles * b / balloons);
            moves(r, text, share, most);
        }
        return text.toString();
    }

    private static void moves(Random r, StringBuilder text, int share, int most) {
        int opened = 0;
        boolean due = true;
        int left = share;
        while (left > 0 || due || opened > 0) {
            int kind = r.nextInt(8);
            if (kind < 4 && left > 0) {
                text.append(' ').append(1 + r.nextInt(most)).append(blank(r));
                left--;
                due = false;
            } else if (kind == 4 || kind == 5 || due && left == 0) {
                text.append((char) ('a' + r.nextInt(4))).append(blank(r));
                due = false;
            } else if (kind == 6 && opened < 6 && left > 0) {
                text.append('(');
                opened++;
                due = true;
            } else if (opened > 0 && !due) {
                text.append(')');
                opened--;
            }
        }
    }

    private static String blank(Random r) {
        return r.nextInt(12) == 0 ? " " : "";
    }

    private static String broken(Random r, String text, String signs) {
        StringBuilder b = new StringBuilder(text);
        int at = r.nextInt(b.length() + 1);
        char sign = signs.charAt(r.nextInt(signs.length()));
        int way = r.nextInt(4);
        if (way == 0) {
            b.insert(at, sign);
        } else if (way == 1 && at < b.length()) {
            b.setCharAt(at, sign);
        } else if (way == 2 && at < b.length()) {
            b.deleteCharAt(at);
        } else {
            b.setLength(at);
        }
        return b.toString();
    }

    private static String sum(Random r, int depth) {
        StringBuilder s = new StringBuilder(atom(r, depth));
        for (int more = r.nextInt(3); more > 0; more--) {
            s.append("+-*/".charAt(r.nextInt(4))).append(blank(r)).append(atom(r, depth));
        }
        return s.toString();
    }

    private static String atom(Random r, int depth) {
        int kind = r.nextInt(6);
        if (kind == 0 && depth < 6) {
            return "[" + sum(r, depth + 1) + "]";
        }
        if (kind < 3) {
            return String.valueOf(r.nextInt(kind == 1 ? 10000 : 9));
        }
        return String.valueOf("lhksa".charAt(r.nextInt(5)));
    }

    private static String unit(Random r, int depth) {
        int kind = r.nextInt(5);
        if (kind == 0 && depth < 6) {
            return "!" + blank(r) + unit(r, depth + 1);
        }
        if (kind == 1 && depth < 6) {
            return "(" + condition(r, depth + 1) + ")";
        }
        return sum(r, depth) + "=<>".charAt(r.nextInt(3)) + sum(r, depth);
    }

    private static String condition(Random r, int depth) {
        StringBuilder s = new StringBuilder(unit(r, depth));
        for (int more = r.nextInt(3); more > 0; more--) {
            s.append("&|".charAt(r.nextInt(2))).append(blank(r)).append(unit(r, depth));
        }
        return s.toString();
    }

    private static String ruleText(Random r) {
        while (true) {
            StringBuilder s = new StringBuilder();
            for (int many = 1 + r.nextInt(4); many > 0; many--) {
                s.append("w").append(blank(r)).append(":");
                if (r.nextInt(3) > 0) {
                    s.append(condition(r, 0)).append(blank(r)).append("?");
                }
                s.append(sum(r, 0)).append(many > 1 ? ";" : "");
            }
            if (s.length() <= 200) {
                return s.toString();
            }
        }
    }

    // What is compared.

    private static int figureFault(String text) {
        try {
            new Model.FigureText(text, SORTS.length).read();
            return -1;
        } catch (Model.Fault e) {
            return e.at;
        }
    }

    private static int ruleFault(String text) {
        try {
            new Model.RuleText(text, 0, 0, 0, 0, 0).read();
            return -1;
        } catch (Model.Fault e) {
            return e.at;
        }
    }

    private static void figureTexts(Random r) {
        BalloonStall x = fresh();
        String text = figureText(r, 1 + r.nextInt(6), r.nextInt(25), r.nextInt(3) == 0 ? 30 : 9);
        for (int i = 0; i < 12 && text.length() <= 200; i++) {
            Checks.due("fault of " + text, Checks.fault(x, 0, text), figureFault(text));
            text = broken(r, text, "0123456789abch()/# ~#/()1");
        }
    }

    private static void ruleTexts(Random r) {
        BalloonStall x = new BalloonStall();
        String text = ruleText(r);
        Checks.due("rule " + text, Checks.rule(x, text), 0);
        for (int i = 0; i < 10; i++) {
            int[] v = new int[5];
            for (int k = 0; k < 5; k++) {
                v[k] = r.nextInt(4) == 0 ? r.nextInt() : r.nextInt(20) - 4;
            }
            Checks.due("worth of " + text, x.worth(0, v[0], v[1], v[2], v[3], v[4]),
                new Model.RuleText(text, v).read());
        }
        for (int i = 0; i < 12 && text.length() <= 200; i++) {
            Checks.due("fault of " + text, Checks.fault(x, 1, text), ruleFault(text));
            text = broken(r, text, "0123lhksa+-*/=<>&|!()[]?;:w ([!&?;");
        }
    }

    private static void figures(Random r) {
        BalloonStall x = fresh();
        List<Model.Fig> all = new ArrayList<>();
        while (all.size() < 12) {
            int kind = all.isEmpty() ? 0 : r.nextInt(5);
            Model.Fig f;
            if (kind == 0 || kind == 1) {
                String text = figureText(r, 1 + r.nextInt(5), r.nextInt(kind == 0 ? 8 : 20), 9);
                if (text.length() > 200) {
                    continue;
                }
                Checks.due("figure " + text, Checks.figure(x, text), all.size());
                f = new Model.FigureText(text, SORTS.length).read();
            } else if (kind == 2) {
                int old = r.nextInt(all.size());
                f = Model.plain(all.get(old));
                Checks.due("plain(" + old + ")", x.plain(old), all.size());
            } else {
                int one = r.nextInt(all.size());
                int other = r.nextInt(all.size());
                int point = r.nextInt(all.get(one).points);
                int its = r.nextInt(all.get(other).points);
                f = Model.added(all.get(one), all.get(other), point, its);
                Checks.due("add", x.add(one, other, point, its), f == null ? -1 : all.size());
            }
            if (f != null) {
                figure(x, all.size(), f);
                making(x, all.size(), f, r.nextInt(SORTS.length));
                all.add(f);
            }
        }
    }

    private static void figure(BalloonStall x, int n, Model.Fig f) {
        int[] ends = f.ends();
        int odd = 0;
        for (int p = 0; p < f.points; p++) {
            Checks.due("ends", x.ends(n, p), ends[p]);
            odd += ends[p] % 2;
        }
        int twists = 0;
        int[] slots = new int[f.sorts.size()];
        int[] need = new int[f.sorts.size()];
        int[] burst = new int[f.sorts.size()];
        java.util.Arrays.fill(burst, -1);
        for (int i = 0; i < f.bubbles.size(); i++) {
            int[] b = f.bubbles.get(i);
            for (int what = 0; what < 4; what++) {
                Checks.due("bubble " + what, x.bubble(n, i, what), b[what]);
            }
            int[] sort = SORTS[f.sorts.get(b[3])];
            Checks.due("sort of bubble", x.bubble(n, i, 4), f.sorts.get(b[3]));
            boolean last = i + 1 == f.bubbles.size() || f.bubbles.get(i + 1)[3] != b[3];
            Checks.due("holds", x.holds(n, i), last ? -1 : ends[b[2]] >= 3 ? 1 : 0);
            twists += last ? 0 : 1;
            need[b[3]] += b[0] + (slots[b[3]]++ > 0 ? sort[1] : 0);
            if (need[b[3]] > sort[0] && burst[b[3]] < 0) {
                burst[b[3]] = i;
            }
        }
        for (int b = 0; b < need.length; b++) {
            Checks.due("rest", x.rest(n, b), Math.max(0, SORTS[f.sorts.get(b)][0] - need[b]));
            Checks.due("bursts", x.bursts(n, b), burst[b]);
        }
        int[] want = {f.sorts.size(), f.bubbles.size(), f.points, twists, Model.slack(f.bubbles, ends), odd};
        for (int what = 0; what < 6; what++) {
            Checks.due("many " + what, x.many(n, what), want[what]);
        }
        Checks.due("hands", x.hands(n), f.hands);
        losses(x, n, f);
    }

    private static void losses(BalloonStall x, int n, Model.Fig f) {
        int weakest = -1;
        int most = 0;
        for (int i = 0; i < f.bubbles.size(); i++) {
            int lost = Model.lost(f, 1 << i);
            Checks.due("pop 0", x.pop(n, i, 0), lost);
            Checks.due("pop 1", x.pop(n, i, 1), Integer.bitCount(lost));
            Checks.due("pop 2", x.pop(n, i, 2), Model.falls(f, lost));
            if (Integer.bitCount(lost) > most) {
                most = Integer.bitCount(lost);
                weakest = i;
            }
        }
        Checks.due("weakest", x.weakest(n), weakest);
        int span = 0;
        int[][] far = Model.far(f);
        for (int p = 0; p < f.points; p++) {
            for (int q = 0; q < f.points; q++) {
                boolean reached = far[p][q] < 1_000_000;
                Checks.due("far", x.far(n, p, q), reached ? far[p][q] : -1);
                span = Math.max(span, reached ? far[p][q] : 0);
            }
        }
        Checks.due("span", x.span(n), span);
    }

    private static void making(BalloonStall x, int n, Model.Fig f, int sort) {
        int all = (1 << f.bubbles.size()) - 1;
        if (f.bubbles.size() > 10) {
            Checks.due("made of too many", x.made(n, sort), -1);
            Checks.due("set of too many", x.set(n, sort, 0), -1);
        } else {
            List<Integer> sets = Model.made(f, all, SORTS[sort][0], SORTS[sort][1], new HashMap<>());
            Checks.due("made", x.made(n, sort), sets == null ? -1 : sets.size());
            for (int i = 0; i <= 10; i++) {
                Checks.due("set", x.set(n, sort, i), sets == null || i >= sets.size() ? -1 : sets.get(i));
            }
        }
        if (f.bubbles.size() <= 8) {
            Checks.due("strokes", x.strokes(n), Model.made(f, all, 100000, 0, new HashMap<>()).size());
        }
        if (f.bubbles.size() > 12 || Model.falls(f, 0) > 1) {
            Checks.due("twice", x.twice(n), -1);
        } else {
            Checks.due("twice", x.twice(n), Model.twice(f));
        }
    }

    /** Figures of few points and lengths, and the same ones told in another order. */
    private static void matches(Random r) {
        BalloonStall x = fresh();
        List<Model.Fig> all = new ArrayList<>();
        int points = 2 + r.nextInt(6);
        int bubbles = 1 + r.nextInt(6);
        int[][] net = new int[bubbles][];
        for (int i = 0; i < bubbles; i++) {
            net[i] = new int[] {r.nextInt(points), r.nextInt(points), 1 + r.nextInt(2)};
        }
        for (int turn = 0; turn < 4; turn++) {
            String text = toldAnew(r, net);
            if (turn == 2) {
                net[0][2] = 3 - net[0][2];
            }
            Checks.due("figure " + text, Checks.figure(x, text), turn);
            all.add(new Model.FigureText(text, SORTS.length).read());
        }
        for (int one = 0; one < 4; one++) {
            for (int other = 0; other < 4; other++) {
                compare(x, one, other, all.get(one), all.get(other));
            }
        }
    }

    private static String toldAnew(Random r, int[][] net) {
        List<Integer> order = new ArrayList<>();
        List<Integer> names = new ArrayList<>();
        for (int i = 0; i < 8; i++) {
            names.add(i);
        }
        for (int i = 0; i < net.length; i++) {
            order.add(i);
        }
        java.util.Collections.shuffle(order, r);
        java.util.Collections.shuffle(names, r);
        StringBuilder text = new StringBuilder();
        for (int i : order) {
            boolean turned = r.nextBoolean();
            char one = (char) ('a' + names.get(net[i][turned ? 1 : 0]));
            char other = (char) ('a' + names.get(net[i][turned ? 0 : 1]));
            text.append(text.length() == 0 ? "" : "/").append("#0").append(one).append(net[i][2]).append(other);
        }
        return text.toString();
    }

    private static void compare(BalloonStall x, int one, int other, Model.Fig f, Model.Fig g) {
        if (f.points > 8 || g.points > 8) {
            Checks.due("alike of too many", x.alike(one, other), -1);
            return;
        }
        int[] row = Model.match(f, g);
        Checks.due("alike", x.alike(one, other), row == null ? 0 : 1);
        for (int p = 0; p < f.points; p++) {
            Checks.due("match", x.match(one, other, p), row == null ? -1 : row[p]);
        }
    }

    private static void ageing(Random r) {
        BalloonStall x = fresh();
        String text = figureText(r, 1 + r.nextInt(4), 1 + r.nextInt(14), 30);
        String rule = r.nextInt(3) == 0 ? "w:k>" + r.nextInt(6) + "?" + r.nextInt(4) + ";w:h/" + (1 + r.nextInt(9))
            : ruleText(r);
        if (text.length() > 200) {
            return;
        }
        Checks.figure(x, text);
        Checks.rule(x, rule);
        Model.Fig f = new Model.FigureText(text, SORTS.length).read();
        int[][] hours = Model.aged(f, rule, SORTS);
        int[] first = {-1, -1, -1};
        for (int h = 60; h >= 1; h--) {
            int lost = Model.lostIn(hours[h]);
            first[0] = lost != 0 ? h : first[0];
            first[1] = Model.falls(f, lost) >= 2 ? h : first[1];
            first[2] = lost == (1 << f.bubbles.size()) - 1 ? h : first[2];
        }
        boolean fallsFirst = r.nextBoolean();
        for (int what = 0; what < 3 && fallsFirst; what++) {
            Checks.due("falls " + text + " by " + rule, x.falls(0, 0, what), first[what]);
        }
        for (int i = 0; i < 60; i++) {
            int h = r.nextInt(61);
            int bubble = r.nextInt(f.bubbles.size());
            Checks.due("aged " + text + " by " + rule, x.aged(0, 0, h, bubble), hours[h][bubble]);
        }
        for (int what = 0; what < 3; what++) {
            Checks.due("falls " + text + " by " + rule, x.falls(0, 0, what), first[what]);
        }
    }

    private static void stall(Random r) {
        BalloonStall x = fresh();
        List<Model.Fig> all = new ArrayList<>();
        for (int i = 0; i < 4; i++) {
            String text = figureText(r, 1 + r.nextInt(4), r.nextInt(9), 9);
            Checks.figure(x, text);
            all.add(new Model.FigureText(text, SORTS.length).read());
        }
        int[] stock = new int[SORTS.length];
        for (int s = 0; s < stock.length; s++) {
            stock[s] = r.nextInt(100);
            x.stock(s, stock[s]);
        }
        int bubblePace = 1 + r.nextInt(9);
        int balloonPace = r.nextInt(10);
        x.pace(bubblePace, balloonPace);
        List<int[]> guests = new ArrayList<>();
        int tick = 0;
        for (int i = 0; i < 20; i++) {
            tick += r.nextInt(40);
            guests.add(new int[] {tick, r.nextInt(4), r.nextInt(200)});
            x.comes(tick, guests.get(i)[1], guests.get(i)[2]);
        }
        long seed = r.nextLong();
        runs(x, seed, guests, all, stock, bubblePace, balloonPace);
        runs(x, seed + 1, guests, all, stock, bubblePace, balloonPace);
    }

    private static void runs(BalloonStall x, long seed, List<int[]> guests, List<Model.Fig> all, int[] stock,
            int bubblePace, int balloonPace) {
        int[] there = stock.clone();
        BigInteger[] state = {BigInteger.valueOf(seed)};
        int free = 0;
        int served = 0;
        List<int[]> want = new ArrayList<>();
        for (int[] g : guests) {
            int start = Math.max(free, g[0]);
            int[] went = {0, start, start, 0};
            Model.Fig f = all.get(g[1]);
            if (start - g[0] > g[2]) {
                went[0] = 1;
            } else if (!enough(f, there)) {
                went[0] = 2;
            } else {
                for (int b = 0; b < f.sorts.size() && went[0] == 0; b++) {
                    int ticks = balloonPace;
                    for (int[] bubble : f.bubbles) {
                        ticks += bubble[3] == b ? bubblePace : 0;
                    }
                    balloon(went, there, f.sorts.get(b), ticks, state);
                }
            }
            free = went[2];
            served += went[0] == 0 ? 1 : 0;
            want.add(went);
        }
        Checks.due("run", x.run(seed), served);
        for (int g = 0; g < want.size(); g++) {
            for (int what = 0; what < 4; what++) {
                Checks.due("guest " + g + " " + what, x.guest(g, what), want.get(g)[what]);
            }
        }
    }

    private static boolean enough(Model.Fig f, int[] there) {
        for (int s = 0; s < there.length; s++) {
            int needed = 0;
            for (int sort : f.sorts) {
                needed += sort == s ? 1 : 0;
            }
            if (needed > there[s]) {
                return false;
            }
        }
        return true;
    }

    private static void balloon(int[] went, int[] there, int sort, int ticks, BigInteger[] state) {
        boolean popped = true;
        while (popped && went[0] == 0) {
            if (there[sort] == 0) {
                went[0] = 3;
                return;
            }
            there[sort]--;
            went[3]++;
            went[2] += ticks;
            state[0] = state[0].multiply(new BigInteger("6364136223846793005"))
                .add(new BigInteger("1442695040888963407")).mod(BigInteger.ONE.shiftLeft(64));
            popped = state[0].shiftRight(33).intValueExact() % 100 < SORTS[sort][2];
        }
    }
}
