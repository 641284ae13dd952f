import java.util.ArrayList;
import java.util.Arrays;
import java.util.HashMap;
import java.util.List;
import java.util.Map;
import java.util.PriorityQueue;

/** The document told a second time, slowly and by other ways, to be compared with BalloonStall. */
final class Model {
    private Model() {
    }

    static final class Fault extends RuntimeException {
        final int at;

        Fault(int at) {
            super(null, null, false, false);
            this.at = at;
        }
    }

    /** Bubbles are rows of length, from, to, balloon. */
    static final class Fig {
        final List<int[]> bubbles = new ArrayList<>();
        final List<Integer> sorts = new ArrayList<>();
        int points;
        int hands;

        int[] ends() {
            return endsOf(bubbles, points, (1 << bubbles.size()) - 1);
        }
    }

    static int[] endsOf(List<int[]> bubbles, int points, int kept) {
        int[] ends = new int[points];
        for (int i = 0; i < bubbles.size(); i++) {
            if ((kept >> i & 1) == 1) {
                ends[bubbles.get(i)[1]]++;
                ends[bubbles.get(i)[2]]++;
            }
        }
        return ends;
    }

    static int slack(List<int[]> bubbles, int[] ends) {
        int many = 0;
        for (int i = 0; i + 1 < bubbles.size(); i++) {
            int[] b = bubbles.get(i);
            if (b[3] == bubbles.get(i + 1)[3] && ends[b[2]] < 3) {
                many++;
            }
        }
        return many;
    }

    /** Reads by descent, with the joins kept as pairs and looked through anew each time. */
    static final class FigureText {
        private final String text;
        private final int sorts;
        private int at;
        private int raw;
        private int here;
        private final Map<Character, Integer> names = new HashMap<>();
        private final List<int[]> joins = new ArrayList<>();
        private final Fig made = new Fig();

        FigureText(String text, int sorts) {
            this.text = text;
            this.sorts = sorts;
        }

        Fig read() {
            balloon();
            while (peek() == '/') {
                if (made.sorts.size() == 6) {
                    throw new Fault(at);
                }
                at++;
                balloon();
            }
            if (at < text.length()) {
                throw new Fault(at);
            }
            int[] number = lowest();
            int[] fresh = new int[raw];
            for (int p = 0; p < raw; p++) {
                fresh[p] = number[p] == p ? made.points++ : -1;
            }
            for (int[] b : made.bubbles) {
                b[1] = fresh[number[b[1]]];
                b[2] = fresh[number[b[2]]];
            }
            return made;
        }

        private char peek() {
            while (at < text.length() && text.charAt(at) == ' ') {
                at++;
            }
            return at < text.length() ? text.charAt(at) : 0;
        }

        private void balloon() {
            if (peek() != '#') {
                throw new Fault(at);
            }
            at++;
            char sort = peek();
            if (sort < '0' || sort > '9' || sort - '0' >= sorts) {
                throw new Fault(at);
            }
            at++;
            made.sorts.add(sort - '0');
            here = raw++;
            moves(0);
        }

        private void moves(int depth) {
            int many = 0;
            while (true) {
                char c = peek();
                if (c >= '0' && c <= '9') {
                    bubble();
                } else if (c >= 'a' && c <= 'h') {
                    at++;
                    if (names.containsKey(c)) {
                        joins.add(new int[] {names.get(c), here});
                    } else {
                        names.put(c, here);
                    }
                } else if (c == '(') {
                    if (depth == 6) {
                        throw new Fault(at);
                    }
                    at++;
                    int opened = here;
                    moves(depth + 1);
                    if (peek() != ')') {
                        throw new Fault(at);
                    }
                    at++;
                    joins.add(new int[] {opened, here});
                } else {
                    if (many == 0) {
                        throw new Fault(at);
                    }
                    return;
                }
                many++;
            }
        }

        private void bubble() {
            if (made.bubbles.size() == 24) {
                throw new Fault(at);
            }
            int start = at;
            while (at < text.length() && Character.isDigit(text.charAt(at)) && at < start + 2) {
                at++;
            }
            int length = Integer.parseInt(text.substring(start, at));
            if (length < 1 || length > 30) {
                throw new Fault(at - 1);
            }
            if (at < text.length() && text.charAt(at) >= '0' && text.charAt(at) <= '9') {
                throw new Fault(at);
            }
            int next = raw++;
            made.bubbles.add(new int[] {length, here, next, made.sorts.size() - 1});
            here = next;
            int[] number = lowest();
            List<int[]> soFar = new ArrayList<>();
            for (int[] b : made.bubbles) {
                soFar.add(new int[] {b[0], number[b[1]], number[b[2]], b[3]});
            }
            made.hands = Math.max(made.hands, slack(soFar, endsOf(soFar, raw, (1 << soFar.size()) - 1)));
        }

        private int[] lowest() {
            int[] low = new int[raw];
            for (int p = 0; p < raw; p++) {
                low[p] = p;
            }
            for (boolean again = true; again;) {
                again = false;
                for (int[] j : joins) {
                    int least = Math.min(low[j[0]], low[j[1]]);
                    again |= low[j[0]] != least || low[j[1]] != least;
                    low[j[0]] = least;
                    low[j[1]] = least;
                }
            }
            return low;
        }
    }

    static void handsWhenJoined(Fig f) {
        f.hands = 0;
        for (int many = 1; many <= f.bubbles.size(); many++) {
            List<int[]> soFar = f.bubbles.subList(0, many);
            f.hands = Math.max(f.hands, slack(soFar, endsOf(soFar, f.points, (1 << many) - 1)));
        }
    }

    /** Turns back one slack twist after the other, the last one first. */
    static Fig plain(Fig f) {
        Fig p = new Fig();
        p.sorts.addAll(f.sorts);
        p.points = f.points;
        for (int[] b : f.bubbles) {
            p.bubbles.add(b.clone());
        }
        for (int i = p.bubbles.size() - 2; i >= 0; i--) {
            int[] b = p.bubbles.get(i);
            int[] next = p.bubbles.get(i + 1);
            if (b[3] == next[3] && p.ends()[b[2]] < 3) {
                int gone = b[2];
                b[0] += next[0];
                b[2] = next[2];
                p.bubbles.remove(i + 1);
                for (int[] c : p.bubbles) {
                    c[1] -= c[1] > gone ? 1 : 0;
                    c[2] -= c[2] > gone ? 1 : 0;
                }
                p.points--;
            }
        }
        handsWhenJoined(p);
        return p;
    }

    static Fig added(Fig one, Fig other, int point, int its) {
        if (one.bubbles.size() + other.bubbles.size() > 24 || one.sorts.size() + other.sorts.size() > 6) {
            return null;
        }
        Fig f = new Fig();
        f.sorts.addAll(one.sorts);
        f.sorts.addAll(other.sorts);
        List<Integer> numbers = new ArrayList<>();
        f.points = one.points;
        for (int q = 0; q < other.points; q++) {
            numbers.add(q == its ? point : f.points++);
        }
        for (int[] b : one.bubbles) {
            f.bubbles.add(b.clone());
        }
        for (int[] b : other.bubbles) {
            f.bubbles.add(new int[] {b[0], numbers.get(b[1]), numbers.get(b[2]), b[3] + one.sorts.size()});
        }
        handsWhenJoined(f);
        return f;
    }

    static int lost(Fig f, int first) {
        int lost = first;
        for (int i = 0; i < f.bubbles.size(); i++) {
            if ((lost >> i & 1) == 0 && (loosened(f, lost, i, i - 1, 1) || loosened(f, lost, i, i + 1, 2))) {
                return lost(f, lost | 1 << i);
            }
        }
        return lost;
    }

    private static boolean loosened(Fig f, int lost, int i, int beside, int end) {
        if (beside < 0 || beside >= f.bubbles.size() || (lost >> beside & 1) == 0) {
            return false;
        }
        int[] b = f.bubbles.get(i);
        return b[3] == f.bubbles.get(beside)[3] && endsOf(f.bubbles, f.points, ~lost)[b[end]] < 3;
    }

    static int falls(Fig f, int lost) {
        int left = ~lost & (1 << f.bubbles.size()) - 1;
        int many = 0;
        while (left != 0) {
            many++;
            int part = Integer.lowestOneBit(left);
            for (int i = 0; i < 30; i++) {
                for (int j = 0; j < f.bubbles.size(); j++) {
                    if ((left >> j & 1) == 1 && touches(f, part, j)) {
                        part |= 1 << j;
                    }
                }
            }
            left &= ~part;
        }
        return many;
    }

    private static boolean touches(Fig f, int part, int j) {
        int[] b = f.bubbles.get(j);
        for (int i = 0; i < f.bubbles.size(); i++) {
            int[] c = f.bubbles.get(i);
            if ((part >> i & 1) == 1 && (b[1] == c[1] || b[1] == c[2] || b[2] == c[1] || b[2] == c[2])) {
                return true;
            }
        }
        return false;
    }

    /** All rows in their order, each looked at whole. */
    static int[] match(Fig one, Fig other) {
        return one.points != other.points ? null : matchFrom(between(one), between(other), new int[one.points], 0);
    }

    private static String[][] between(Fig f) {
        String[][] all = new String[f.points][f.points];
        for (int p = 0; p < f.points; p++) {
            for (int q = 0; q < f.points; q++) {
                List<Integer> lengths = new ArrayList<>();
                for (int[] b : f.bubbles) {
                    if (b[1] == p && b[2] == q || b[1] == q && b[2] == p) {
                        lengths.add(b[0]);
                    }
                }
                lengths.sort(null);
                all[p][q] = lengths.toString();
            }
        }
        return all;
    }

    private static int[] matchFrom(String[][] one, String[][] other, int[] row, int depth) {
        if (depth == row.length) {
            for (int p = 0; p < depth; p++) {
                for (int q = 0; q < depth; q++) {
                    if (!one[p][q].equals(other[row[p]][row[q]])) {
                        return null;
                    }
                }
            }
            return row.clone();
        }
        for (int q = 0; q < row.length; q++) {
            boolean used = false;
            for (int p = 0; p < depth; p++) {
                used |= row[p] == q;
            }
            if (!used) {
                row[depth] = q;
                int[] found = matchFrom(one, other, row, depth + 1);
                if (found != null) {
                    return found;
                }
            }
        }
        return null;
    }

    static int[][] far(Fig f) {
        int[][] far = new int[f.points][f.points];
        for (int p = 0; p < f.points; p++) {
            Arrays.fill(far[p], 1_000_000);
            far[p][p] = 0;
        }
        for (int[] b : f.bubbles) {
            far[b[1]][b[2]] = Math.min(far[b[1]][b[2]], b[0]);
            far[b[2]][b[1]] = Math.min(far[b[2]][b[1]], b[0]);
        }
        for (int m = 0; m < f.points; m++) {
            for (int p = 0; p < f.points; p++) {
                for (int q = 0; q < f.points; q++) {
                    far[p][q] = Math.min(far[p][q], far[p][m] + far[m][q]);
                }
            }
        }
        return far;
    }

    /** The best way of each rest, by walking each set's bubbles. */
    static List<Integer> made(Fig f, int left, int air, int strain, Map<Integer, List<Integer>> known) {
        if (left == 0) {
            return new ArrayList<>();
        }
        if (known.containsKey(left)) {
            return known.get(left);
        }
        List<Integer> best = null;
        for (int set = 1; set <= left; set++) {
            if ((set & ~left) != 0 || (set & Integer.lowestOneBit(left)) == 0 || !oneBalloon(f, set, air, strain)) {
                continue;
            }
            List<Integer> others = made(f, left & ~set, air, strain, known);
            if (others != null && (best == null || others.size() + 1 < best.size())) {
                best = new ArrayList<>();
                best.add(set);
                best.addAll(others);
            }
        }
        known.put(left, best);
        return best;
    }

    private static boolean oneBalloon(Fig f, int set, int air, int strain) {
        int need = strain * (Integer.bitCount(set) - 1);
        for (int i = 0; i < f.bubbles.size(); i++) {
            need += (set >> i & 1) == 1 ? f.bubbles.get(i)[0] : 0;
        }
        if (need > air) {
            return false;
        }
        for (int p = 0; p < f.points; p++) {
            if (walks(f, set, p)) {
                return true;
            }
        }
        return false;
    }

    private static boolean walks(Fig f, int left, int here) {
        if (left == 0) {
            return true;
        }
        for (int i = 0; i < f.bubbles.size(); i++) {
            int[] b = f.bubbles.get(i);
            if ((left >> i & 1) == 1 && (b[1] == here && walks(f, left & ~(1 << i), b[2])
                || b[2] == here && walks(f, left & ~(1 << i), b[1]))) {
                return true;
            }
        }
        return false;
    }

    /** The shortest walk over all bubbles, by what has been walked and where one is, less all lengths. */
    static int twice(Fig f) {
        int all = (1 << f.bubbles.size()) - 1;
        int once = 0;
        for (int[] b : f.bubbles) {
            once += b[0];
        }
        Map<Integer, Integer> done = new HashMap<>();
        PriorityQueue<int[]> next = new PriorityQueue<>((x, y) -> Integer.compare(x[0], y[0]));
        for (int p = 0; p < f.points; p++) {
            next.add(new int[] {0, p, 0});
        }
        while (!next.isEmpty()) {
            int[] now = next.remove();
            if (now[2] == all) {
                return now[0] - once;
            }
            if (done.putIfAbsent(now[2] * 32 + now[1], now[0]) != null) {
                continue;
            }
            for (int i = 0; i < f.bubbles.size(); i++) {
                int[] b = f.bubbles.get(i);
                if (b[1] == now[1]) {
                    next.add(new int[] {now[0] + b[0], b[2], now[2] | 1 << i});
                }
                if (b[2] == now[1]) {
                    next.add(new int[] {now[0] + b[0], b[1], now[2] | 1 << i});
                }
            }
        }
        return -1;
    }

    /** Reads by descent and reckons as it reads; what is read but does not count is reckoned, too. */
    static final class RuleText {
        private final String text;
        private int at;
        private final int[] letters;

        RuleText(String text, int... letters) {
            this.text = text;
            this.letters = letters;
        }

        long read() {
            Long worth = clause();
            while (peek() == ';') {
                at++;
                Long next = clause();
                worth = worth == null ? next : worth;
            }
            if (at < text.length()) {
                throw new Fault(at);
            }
            return worth == null ? 0 : worth;
        }

        private char peek() {
            while (at < text.length() && text.charAt(at) == ' ') {
                at++;
            }
            return at < text.length() ? text.charAt(at) : 0;
        }

        private void need(char c) {
            if (peek() != c) {
                throw new Fault(at);
            }
            at++;
        }

        private Long clause() {
            need('w');
            need(':');
            char c = peek();
            boolean holds = true;
            if (c == '!' || c == '(') {
                holds = condition(0);
                need('?');
            } else {
                int start = at;
                long sum = sum(0);
                if (peek() != '=' && peek() != '<' && peek() != '>') {
                    return sum;
                }
                at = start;
                holds = condition(0);
                need('?');
            }
            long sum = sum(0);
            return holds ? sum : null;
        }

        private boolean condition(int depth) {
            boolean holds = truth(depth);
            while (peek() == '|') {
                at++;
                holds |= truth(depth);
            }
            return holds;
        }

        private boolean truth(int depth) {
            boolean holds = unit(depth);
            while (peek() == '&') {
                at++;
                holds &= unit(depth);
            }
            return holds;
        }

        private boolean unit(int depth) {
            char c = peek();
            if ((c == '!' || c == '(') && depth == 6) {
                throw new Fault(at);
            }
            if (c == '!') {
                at++;
                return !unit(depth + 1);
            }
            if (c == '(') {
                at++;
                boolean holds = condition(depth + 1);
                need(')');
                return holds;
            }
            long one = sum(depth);
            char sign = peek();
            if (sign != '=' && sign != '<' && sign != '>') {
                throw new Fault(at);
            }
            at++;
            long other = sum(depth);
            return sign == '=' ? one == other : sign == '<' ? one < other : one > other;
        }

        private long sum(int depth) {
            long sum = term(depth);
            while (peek() == '+' || peek() == '-') {
                char sign = text.charAt(at++);
                long next = term(depth);
                sum = within(sign == '+' ? sum + next : sum - next);
            }
            return sum;
        }

        private long term(int depth) {
            long product = atom(depth);
            while (peek() == '*' || peek() == '/') {
                char sign = text.charAt(at++);
                long next = atom(depth);
                product = sign == '*' ? within(product * next) : next == 0 ? 0 : within(product / next);
            }
            return product;
        }

        private static long within(long x) {
            return x > 1_000_000 ? 1_000_000 : x < -1_000_000 ? -1_000_000 : x;
        }

        private long atom(int depth) {
            char c = peek();
            if (c == '[') {
                if (depth == 6) {
                    throw new Fault(at);
                }
                at++;
                long sum = sum(depth + 1);
                need(']');
                return sum;
            }
            int letter = c == 0 ? -1 : "lhksa".indexOf(c);
            if (letter >= 0) {
                at++;
                return letters[letter];
            }
            int start = at;
            while (at < text.length() && text.charAt(at) >= '0' && text.charAt(at) <= '9') {
                if (at == start + 4) {
                    throw new Fault(at);
                }
                at++;
            }
            if (at == start) {
                throw new Fault(at);
            }
            return Long.parseLong(text.substring(start, at));
        }
    }

    /** The lengths hour by hour. */
    static int[][] aged(Fig f, String rule, int[][] sorts) {
        int many = f.bubbles.size();
        int[][] hours = new int[61][many];
        for (int i = 0; i < many; i++) {
            hours[0][i] = f.bubbles.get(i)[0];
        }
        for (int h = 1; h <= 60; h++) {
            int before = lostIn(hours[h - 1]);
            int[] ends = endsOf(f.bubbles, f.points, ~before);
            for (int i = 0; i < many; i++) {
                int had = hours[h - 1][i];
                int[] b = f.bubbles.get(i);
                int[] sort = sorts[f.sorts.get(b[3])];
                if (had > 0) {
                    long worth = new RuleText(rule, had, h, ends[b[1]] + ends[b[2]], sort[1], sort[0]).read();
                    hours[h][i] = (int) (had - Math.min(had, Math.max(0, worth)));
                }
            }
            int lost = lost(f, lostIn(hours[h]));
            for (int i = 0; i < many; i++) {
                hours[h][i] = (lost >> i & 1) == 1 ? 0 : hours[h][i];
            }
        }
        return hours;
    }

    static int lostIn(int[] lengths) {
        int lost = 0;
        for (int i = 0; i < lengths.length; i++) {
            lost |= lengths[i] == 0 ? 1 << i : 0;
        }
        return lost;
    }
}
