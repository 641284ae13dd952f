import java.util.Arrays;
import java.util.NoSuchElementException;

/**
 * Balloon figures twisted by texts, asked about, and sold at a stall.
 * What each call promises stands in ../shared/DOC.md; words in capitals are used as that page tells them.
 */
public final class BalloonStall {
    public static final int NONE = -1;

    private static final int NO_SUCH_KIND = -2;
    private static final int MOST_SORTS = 6;
    private static final int MOST_FIGURES = 12;
    private static final int MOST_RULES = 6;
    private static final int MOST_BALLOONS = 6;
    private static final int MOST_BUBBLES = 24;
    private static final int MOST_POINTS = MOST_BALLOONS + MOST_BUBBLES;
    private static final int LONGEST = 30;
    private static final int MOST_NAMES = 8;
    private static final int MOST_NESTED = 6;
    private static final int MOST_BYTES = 200;
    private static final int MOST_HOURS = 60;
    private static final int MOST_GUESTS = 30;
    private static final int LETTERS = 5;
    private static final int LOCKING_ENDS = 3;
    private static final int GONE = -1;
    /** Longer than all bubbles of any figure together. */
    private static final int BEYOND = 1_000_000;

    private final Sorts sorts = new Sorts();
    private final Tape tape = new Tape();
    private final Figure[] figures = new Figure[MOST_FIGURES];
    private final Rule[] rules = new Rule[MOST_RULES];
    private final FigureReader figureReader = new FigureReader();
    private final RuleReader ruleReader = new RuleReader();
    private final Net net = new Net();
    private final Matcher matcher = new Matcher();
    private final Maker maker = new Maker();
    private final Ageing ageing = new Ageing();
    private final Stall stall = new Stall();
    private final int[] letters = new int[LETTERS];
    private final int[] numbers = new int[MOST_POINTS];
    private int figureCount;
    private int ruleCount;

    /** All rows are made here and used again: what calls make is never given back. */
    public BalloonStall() {
        for (int i = 0; i < MOST_FIGURES; i++) {
            figures[i] = new Figure();
        }
        for (int i = 0; i < MOST_RULES; i++) {
            rules[i] = new Rule();
        }
    }

    public int sort(int air, int strain, int chance) {
        return sorts.make(air, strain, chance);
    }

    public int feed(int a, int b, int c, int d, int e) {
        int more = filledBytes(a) + filledBytes(b) + filledBytes(c) + filledBytes(d) + filledBytes(e);
        if (tape.length + more > MOST_BYTES) {
            return NONE;
        }
        tape.put(a);
        tape.put(b);
        tape.put(c);
        tape.put(d);
        tape.put(e);
        return tape.length;
    }

    public boolean end(int n) {
        if (n < 0 || n > tape.length) {
            return false;
        }
        tape.length = n;
        return true;
    }

    public int fault(int sort) {
        if (sort == 0) {
            return figureReader.read(tape, sorts.count);
        }
        return sort == 1 ? ruleReader.read(tape) : NO_SUCH_KIND;
    }

    public int figure() {
        Figure slot = freeFigure();
        if (slot == null || figureReader.read(tape, sorts.count) != NONE) {
            return NONE;
        }
        slot.copy(figureReader.draft);
        tape.length = 0;
        return figureCount++;
    }

    public int rule() {
        if (ruleCount >= MOST_RULES || ruleReader.read(tape) != NONE) {
            return NONE;
        }
        rules[ruleCount].copy(ruleReader.draft);
        tape.length = 0;
        return ruleCount++;
    }

    public int many(int figure, int what) {
        Figure f = figureAt(figure);
        if (f == null) {
            return NONE;
        }
        switch (what) {
            case 0:
                return f.balloons;
            case 1:
                return f.bubbles;
            case 2:
                return f.points;
            case 3:
                return f.twists();
            case 4:
                return f.slackTwistsUpTo(f.bubbles - 1);
            case 5:
                return Integer.bitCount(f.oddPoints());
            default:
                return NONE;
        }
    }

    public int bubble(int figure, int bubble, int what) throws NoSuchElementException {
        Figure f = figureAt(figure);
        if (f == null || !f.hasBubble(bubble)) {
            throw new NoSuchElementException("no such bubble");
        }
        switch (what) {
            case 0:
                return f.length[bubble];
            case 1:
                return f.from[bubble];
            case 2:
                return f.to[bubble];
            case 3:
                return f.balloonOf[bubble];
            case 4:
                return f.sortOf[f.balloonOf[bubble]];
            default:
                throw new NoSuchElementException("nothing such is told of a bubble");
        }
    }

    public int ends(int figure, int point) {
        Figure f = figureAt(figure);
        return f == null || !f.hasPoint(point) ? NONE : f.endsAt[point];
    }

    public int bursts(int figure, int balloon) {
        Figure f = figureAt(figure);
        if (f == null || !f.hasBalloon(balloon)) {
            return NONE;
        }
        int sort = f.sortOf[balloon];
        return f.burstOf(balloon, sorts.air[sort], sorts.strain[sort]);
    }

    public int rest(int figure, int balloon) {
        Figure f = figureAt(figure);
        if (f == null || !f.hasBalloon(balloon)) {
            return NONE;
        }
        int sort = f.sortOf[balloon];
        return Math.max(0, sorts.air[sort] - f.needOf(balloon, sorts.strain[sort]));
    }

    public int hands(int figure) {
        Figure f = figureAt(figure);
        return f == null ? NONE : f.mostHeld;
    }

    public int holds(int figure, int bubble) {
        Figure f = figureAt(figure);
        if (f == null || !f.hasBubble(bubble) || !f.twistBehind(bubble)) {
            return NONE;
        }
        return f.slackBehind(bubble) ? 0 : 1;
    }

    public int plain(int figure) {
        Figure f = figureAt(figure);
        Figure slot = freeFigure();
        if (f == null || slot == null) {
            return NONE;
        }
        slot.turnBack(f, numbers);
        return figureCount++;
    }

    public int pop(int figure, int bubble, int what) {
        Figure f = figureAt(figure);
        if (f == null || !f.hasBubble(bubble)) {
            return NONE;
        }
        int lost = net.lostWith(f, 1 << bubble);
        switch (what) {
            case 0:
                return lost;
            case 1:
                return Integer.bitCount(lost);
            case 2:
                return net.parts(f, lost);
            default:
                return NONE;
        }
    }

    public int weakest(int figure) {
        Figure f = figureAt(figure);
        return f == null ? NONE : net.weakestOf(f);
    }

    public int add(int one, int other, int point, int its) {
        Figure first = figureAt(one);
        Figure second = figureAt(other);
        Figure slot = freeFigure();
        if (first == null || second == null || slot == null || !first.hasPoint(point) || !second.hasPoint(its)) {
            return NONE;
        }
        if (first.bubbles + second.bubbles > MOST_BUBBLES || first.balloons + second.balloons > MOST_BALLOONS) {
            return NONE;
        }
        slot.joinTwo(first, second, point, its);
        return figureCount++;
    }

    public int alike(int one, int other) {
        Figure first = figureAt(one);
        Figure second = figureAt(other);
        if (!Matcher.mayCompare(first) || !Matcher.mayCompare(second)) {
            return NONE;
        }
        return matcher.matches(first, second) ? 1 : 0;
    }

    public int match(int one, int other, int point) {
        Figure first = figureAt(one);
        Figure second = figureAt(other);
        if (!Matcher.mayCompare(first) || !Matcher.mayCompare(second) || !first.hasPoint(point)) {
            return NONE;
        }
        return matcher.matches(first, second) ? matcher.row[point] : NONE;
    }

    public int far(int figure, int point, int other) {
        Figure f = figureAt(figure);
        if (f == null || !f.hasPoint(point) || !f.hasPoint(other)) {
            return NONE;
        }
        net.measure(f, point);
        return net.away[other];
    }

    public int span(int figure) {
        Figure f = figureAt(figure);
        return f == null ? NONE : net.spanOf(f);
    }

    public int strokes(int figure) {
        Figure f = figureAt(figure);
        return f == null ? NONE : net.strokesOf(f);
    }

    public int made(int figure, int sort) {
        Figure f = figureAt(figure);
        if (f == null || !sorts.has(sort) || f.bubbles > Maker.MOST_MADE) {
            return NONE;
        }
        return maker.fewestFor(f, figure, sort, sorts);
    }

    public int set(int figure, int sort, int i) {
        int many = made(figure, sort);
        return i < 0 || i >= many ? NONE : maker.setAt(figure, sort, i);
    }

    public int twice(int figure) {
        Figure f = figureAt(figure);
        return f == null ? NONE : net.leastTwice(f);
    }

    public boolean stock(int sort, int many) {
        if (!sorts.has(sort) || many < 0 || many > 99) {
            return false;
        }
        stall.stock[sort] = many;
        return true;
    }

    public boolean pace(int bubble, int balloon) {
        if (bubble < 1 || bubble > 9 || balloon < 0 || balloon > 9) {
            return false;
        }
        stall.bubbleTicks = bubble;
        stall.balloonTicks = balloon;
        return true;
    }

    public int comes(int tick, int figure, int patience) {
        if (figureAt(figure) == null || tick < 0 || tick > 9999 || patience < 0 || patience > 999) {
            return NONE;
        }
        return stall.queue(tick, figure, patience);
    }

    public int close() {
        return stall.clear();
    }

    public int run(long seed) {
        return stall.serveAll(figures, sorts, seed);
    }

    public int guest(int guest, int what) throws NoSuchElementException {
        if (guest < 0 || guest >= stall.ran) {
            throw new NoSuchElementException("no such guest in the latest run");
        }
        switch (what) {
            case 0:
                return stall.outcome[guest];
            case 1:
                return stall.began[guest];
            case 2:
                return stall.ended[guest];
            case 3:
                return stall.taken[guest];
            default:
                throw new NoSuchElementException("nothing such is told of a guest");
        }
    }

    public int worth(int rule, int l, int h, int k, int s, int a) throws NoSuchElementException {
        Rule r = ruleAt(rule);
        if (r == null) {
            throw new NoSuchElementException("no such rule");
        }
        letters[0] = l;
        letters[1] = h;
        letters[2] = k;
        letters[3] = s;
        letters[4] = a;
        return r.worthBy(letters, ruleReader.values);
    }

    public int aged(int figure, int rule, int hours, int bubble) {
        Figure f = figureAt(figure);
        Rule r = ruleAt(rule);
        if (f == null || r == null || !f.hasBubble(bubble) || hours < 0 || hours > MOST_HOURS) {
            return NONE;
        }
        ageing.turnTo(f, r);
        ageing.reach(hours, f, r, sorts, net);
        return ageing.lengthAt(hours, bubble);
    }

    public int falls(int figure, int rule, int what) {
        Figure f = figureAt(figure);
        Rule r = ruleAt(rule);
        if (f == null || r == null || f.bubbles == 0 || what < 0 || what > 2) {
            return NONE;
        }
        ageing.turnTo(f, r);
        for (int hour = 1; hour <= MOST_HOURS; hour++) {
            ageing.reach(hour, f, r, sorts, net);
            boolean asBefore = hour > 1 && ageing.lost[hour] == ageing.lost[hour - 1];
            if (!asBefore && hasFallen(f, ageing.lost[hour], what)) {
                return hour;
            }
        }
        return NONE;
    }

    public int count(int what) {
        switch (what) {
            case 0:
                return sorts.count;
            case 1:
                return figureCount;
            case 2:
                return stall.guests;
            case 3:
                return tape.length;
            case 4:
                return ruleCount;
            default:
                return NONE;
        }
    }

    private Figure figureAt(int number) {
        return number < 0 || number >= figureCount ? null : figures[number];
    }

    private Figure freeFigure() {
        return figureCount < MOST_FIGURES ? figures[figureCount] : null;
    }

    private Rule ruleAt(int number) {
        return number < 0 || number >= ruleCount ? null : rules[number];
    }

    private boolean hasFallen(Figure f, int lost, int what) {
        if (what == 0) {
            return lost != 0;
        }
        return what == 1 ? net.parts(f, lost) >= 2 : lost == f.allBubbles();
    }

    private static int filledBytes(int four) {
        int filled = 0;
        for (int shift = 24; shift >= 0; shift -= 8) {
            if (((four >>> shift) & 255) != 0) {
                filled++;
            }
        }
        return filled;
    }

    private static boolean isDigit(int sign) {
        return sign >= '0' && sign <= '9';
    }

    /** The SORTS of balloons that can be had. */
    private static final class Sorts {
        final int[] air = new int[MOST_SORTS];
        final int[] strain = new int[MOST_SORTS];
        final int[] chance = new int[MOST_SORTS];
        int count;

        int make(int itsAir, int itsStrain, int itsChance) {
            if (itsAir < 5 || itsAir > 200 || itsStrain < 0 || itsStrain > 9) {
                return NONE;
            }
            if (itsChance < 0 || itsChance > 99 || count >= MOST_SORTS) {
                return NONE;
            }
            air[count] = itsAir;
            strain[count] = itsStrain;
            chance[count] = itsChance;
            return count++;
        }

        boolean has(int sort) {
            return sort >= 0 && sort < count;
        }
    }

    /** The bytes told so far. */
    private static final class Tape {
        private final char[] bytes = new char[MOST_BYTES];
        int length;

        void put(int four) {
            for (int shift = 24; shift >= 0; shift -= 8) {
                int sign = (four >>> shift) & 255;
                if (sign != 0 && length < MOST_BYTES) {
                    bytes[length] = (char) sign;
                    length++;
                }
            }
        }

        /** 0, which no tape holds, stands for what is beyond its end. */
        int at(int i) {
            return i < 0 || i >= length ? 0 : bytes[i];
        }
    }

    /** A FIGURE as a net: bubbles between points, those of a balloon one behind the other. */
    private static final class Figure {
        final int[] sortOf = new int[MOST_BALLOONS];
        final int[] length = new int[MOST_BUBBLES];
        final int[] from = new int[MOST_BUBBLES];
        final int[] to = new int[MOST_BUBBLES];
        final int[] balloonOf = new int[MOST_BUBBLES];
        final int[] endsAt = new int[MOST_POINTS];
        int balloons;
        int bubbles;
        int points;
        int mostHeld;

        void clear() {
            Arrays.fill(endsAt, 0);
            balloons = 0;
            bubbles = 0;
            points = 0;
            mostHeld = 0;
        }

        void copy(Figure other) {
            System.arraycopy(other.sortOf, 0, sortOf, 0, MOST_BALLOONS);
            System.arraycopy(other.length, 0, length, 0, MOST_BUBBLES);
            System.arraycopy(other.from, 0, from, 0, MOST_BUBBLES);
            System.arraycopy(other.to, 0, to, 0, MOST_BUBBLES);
            System.arraycopy(other.balloonOf, 0, balloonOf, 0, MOST_BUBBLES);
            System.arraycopy(other.endsAt, 0, endsAt, 0, MOST_POINTS);
            balloons = other.balloons;
            bubbles = other.bubbles;
            points = other.points;
            mostHeld = other.mostHeld;
        }

        boolean hasBalloon(int balloon) {
            return balloon >= 0 && balloon < balloons;
        }

        boolean hasBubble(int bubble) {
            return bubble >= 0 && bubble < bubbles;
        }

        boolean hasPoint(int point) {
            return point >= 0 && point < points;
        }

        int allBubbles() {
            return (1 << bubbles) - 1;
        }

        /** A POINT as a bit: all points fit into an int. */
        int endBits(int bubble) {
            return (1 << from[bubble]) ^ (1 << to[bubble]);
        }

        void startBalloon(int sort) {
            if (balloons < MOST_BALLOONS) {
                sortOf[balloons] = sort;
                balloons++;
            }
        }

        /** HANDS are counted as bubbles come, with the joins known by then: later joins may lock what is held now. */
        void makeBubble(int itsLength, int itsFrom, int itsTo) {
            if (bubbles >= MOST_BUBBLES) {
                return;
            }
            length[bubbles] = itsLength;
            from[bubbles] = itsFrom;
            to[bubbles] = itsTo;
            balloonOf[bubbles] = balloons - 1;
            endsAt[itsFrom]++;
            endsAt[itsTo]++;
            bubbles++;
            mostHeld = Math.max(mostHeld, slackTwistsUpTo(bubbles - 1));
        }

        boolean twistBehind(int bubble) {
            return bubble + 1 < bubbles && balloonOf[bubble] == balloonOf[bubble + 1];
        }

        boolean slackBehind(int bubble) {
            return twistBehind(bubble) && endsAt[to[bubble]] < LOCKING_ENDS;
        }

        int twists() {
            int many = 0;
            for (int i = 0; i < bubbles; i++) {
                if (twistBehind(i)) {
                    many++;
                }
            }
            return many;
        }

        int slackTwistsUpTo(int last) {
            int many = 0;
            for (int i = 0; i < last && i + 1 < bubbles; i++) {
                if (balloonOf[i] == balloonOf[i + 1] && endsAt[to[i]] < LOCKING_ENDS) {
                    many++;
                }
            }
            return many;
        }

        int oddPoints() {
            int odd = 0;
            for (int i = 0; i < bubbles; i++) {
                odd ^= endBits(i);
            }
            return odd;
        }

        int burstOf(int balloon, int air, int strain) {
            int need = -strain;
            for (int i = 0; i < bubbles; i++) {
                if (balloonOf[i] == balloon) {
                    need += strain + length[i];
                    if (need > air) {
                        return i;
                    }
                }
            }
            return NONE;
        }

        int needOf(int balloon, int strain) {
            int need = 0;
            for (int i = 0; i < bubbles; i++) {
                if (balloonOf[i] == balloon) {
                    need += length[i] + (twistBehind(i) ? strain : 0);
                }
            }
            return need;
        }

        int bubblesOf(int balloon) {
            int many = 0;
            for (int i = 0; i < bubbles; i++) {
                if (balloonOf[i] == balloon) {
                    many++;
                }
            }
            return many;
        }

        void moveEnds(int gone, int kept) {
            for (int i = 0; i < bubbles; i++) {
                from[i] = from[i] == gone ? kept : from[i];
                to[i] = to[i] == gone ? kept : to[i];
            }
            endsAt[kept] += endsAt[gone];
            endsAt[gone] = 0;
        }

        /** Leaves out the points marked GONE, at which nothing may lie; the row holds the new numbers then. */
        void closeUp(int[] numbers) {
            int kept = numberAnew(numbers, points);
            for (int p = 0; p < points; p++) {
                if (numbers[p] != GONE) {
                    endsAt[numbers[p]] = endsAt[p];
                }
            }
            for (int i = 0; i < bubbles; i++) {
                from[i] = numbers[from[i]];
                to[i] = numbers[to[i]];
            }
            points = kept;
        }

        private static int numberAnew(int[] numbers, int many) {
            int kept = 0;
            for (int p = 0; p < many; p++) {
                if (numbers[p] != GONE) {
                    numbers[p] = kept;
                    kept++;
                }
            }
            return kept;
        }

        /** PLAIN of another one: a slack twist's point bears nothing but its two bubbles, so it goes with the twist. */
        void turnBack(Figure old, int[] numbers) {
            clear();
            Arrays.fill(numbers, 0);
            for (int i = 0; i < old.bubbles; i++) {
                if (old.slackBehind(i)) {
                    numbers[old.to[i]] = GONE;
                }
            }
            points = numberAnew(numbers, old.points);
            int next = 0;
            for (int b = 0; b < old.balloons; b++) {
                startBalloon(old.sortOf[b]);
                next = turnBalloonBack(old, b, next, numbers);
            }
        }

        private int turnBalloonBack(Figure old, int balloon, int first, int[] numbers) {
            int merged = 0;
            int start = first;
            int next = first;
            while (next < old.bubbles && old.balloonOf[next] == balloon) {
                merged += old.length[next];
                if (!old.slackBehind(next)) {
                    makeBubble(merged, numbers[old.from[start]], numbers[old.to[next]]);
                    merged = 0;
                    start = next + 1;
                }
                next++;
            }
            return next;
        }

        /** ADDED of two others. */
        void joinTwo(Figure first, Figure second, int point, int its) {
            clear();
            points = first.points + second.points - 1;
            int next = 0;
            for (int b = 0; b < first.balloons; b++) {
                startBalloon(first.sortOf[b]);
                for (; next < first.bubbles && first.balloonOf[next] == b; next++) {
                    makeBubble(first.length[next], first.from[next], first.to[next]);
                }
            }
            next = 0;
            for (int b = 0; b < second.balloons; b++) {
                startBalloon(second.sortOf[b]);
                for (; next < second.bubbles && second.balloonOf[next] == b; next++) {
                    int start = joinedNumber(second.from[next], first.points, point, its);
                    int stop = joinedNumber(second.to[next], first.points, point, its);
                    makeBubble(second.length[next], start, stop);
                }
            }
        }

        private static int joinedNumber(int number, int ahead, int point, int its) {
            if (number == its) {
                return point;
            }
            return ahead + number - (number > its ? 1 : 0);
        }
    }

    /** Reads a tape as a FIGURE, byte by byte, into its draft. */
    private static final class FigureReader {
        private static final int HASH = 0;
        private static final int SORT = 1;
        private static final int MOVES = 2;

        final Figure draft = new Figure();
        private final int[] numbers = new int[MOST_POINTS];
        private final int[] named = new int[MOST_NAMES];
        private final int[] opened = new int[MOST_NESTED];
        private int sorts;
        private int place;
        private int here;
        private int nested;
        private int digits;
        private int value;
        private boolean moveDue;

        int read(Tape tape, int sortsThere) {
            begin(sortsThere);
            for (int i = 0; i < tape.length; i++) {
                if (!takes(tape.at(i), isDigit(tape.at(i + 1)))) {
                    return i;
                }
            }
            if (place != MOVES || moveDue || nested > 0) {
                return tape.length;
            }
            draft.closeUp(numbers);
            return NONE;
        }

        private void begin(int sortsThere) {
            draft.clear();
            Arrays.fill(numbers, 0);
            Arrays.fill(named, NONE);
            sorts = sortsThere;
            place = HASH;
            here = 0;
            nested = 0;
            digits = 0;
            value = 0;
            moveDue = false;
        }

        private boolean takes(int sign, boolean digitNext) {
            if (place == MOVES && isDigit(sign)) {
                return takesDigit(sign - '0', digitNext);
            }
            digits = 0;
            if (sign == ' ') {
                return true;
            }
            if (place == HASH) {
                place = SORT;
                return sign == '#';
            }
            if (place == SORT) {
                return takesSort(sign - '0');
            }
            return takesMove(sign);
        }

        private boolean takesSort(int sort) {
            if (sort < 0 || sort >= sorts) {
                return false;
            }
            draft.startBalloon(sort);
            here = newPoint();
            place = MOVES;
            moveDue = true;
            return true;
        }

        /** The digit behind is looked at, for only the last digit of a length can be out of bounds. */
        private boolean takesDigit(int digit, boolean digitNext) {
            if (digits == 2 || digits == 0 && draft.bubbles >= MOST_BUBBLES) {
                return false;
            }
            value = digits == 0 ? digit : value * 10 + digit;
            digits++;
            if (digits == 1 && digitNext) {
                return true;
            }
            return makesBubble();
        }

        private boolean makesBubble() {
            if (value < 1 || value > LONGEST) {
                return false;
            }
            int next = newPoint();
            draft.makeBubble(value, here, next);
            here = next;
            moveDue = false;
            return true;
        }

        private boolean takesMove(int sign) {
            if (sign >= 'a' && sign < 'a' + MOST_NAMES) {
                nameHere(sign - 'a');
                return true;
            }
            switch (sign) {
                case '(':
                    return opens();
                case ')':
                    return closes();
                case '/':
                    return endsBalloon();
                default:
                    return false;
            }
        }

        private void nameHere(int name) {
            moveDue = false;
            if (named[name] == NONE) {
                named[name] = here;
            } else {
                join(named[name], here);
            }
        }

        private boolean opens() {
            if (nested >= MOST_NESTED) {
                return false;
            }
            opened[nested] = here;
            nested++;
            moveDue = true;
            return true;
        }

        private boolean closes() {
            if (moveDue || nested <= 0) {
                return false;
            }
            nested--;
            join(opened[nested], here);
            return true;
        }

        private boolean endsBalloon() {
            if (moveDue || nested > 0 || draft.balloons >= MOST_BALLOONS) {
                return false;
            }
            place = HASH;
            return true;
        }

        /** Six balloons and 24 bubbles begin no more points than there is room for. */
        private int newPoint() {
            if (draft.points < MOST_POINTS) {
                draft.points++;
            }
            return draft.points - 1;
        }

        /** The point that came first stays, so that points are numbered as they first come. */
        private void join(int one, int other) {
            if (one == other) {
                return;
            }
            int kept = Math.min(one, other);
            int gone = Math.max(one, other);
            draft.moveEnds(gone, kept);
            numbers[gone] = GONE;
            renameIn(named, MOST_NAMES, gone, kept);
            renameIn(opened, nested, gone, kept);
            here = here == gone ? kept : here;
        }

        private static void renameIn(int[] row, int many, int gone, int kept) {
            for (int i = 0; i < many; i++) {
                row[i] = row[i] == gone ? kept : row[i];
            }
        }
    }

    /** What hangs together in a FIGURE: losses, parts, ways. */
    private static final class Net {
        private static final int MOST_TWICE = 12;

        final int[] away = new int[MOST_POINTS];
        private final int[] live = new int[MOST_POINTS];
        private final int[] group = new int[MOST_POINTS];

        /** All that is LOST once these bubbles are. */
        int lostWith(Figure f, int first) {
            countLive(f, first);
            int lost = first;
            int before = ~lost;
            for (int round = 0; round <= f.bubbles && before != lost; round++) {
                before = lost;
                for (int i = 0; i < f.bubbles; i++) {
                    if ((lost & (1 << i)) == 0 && hangsLoose(f, i, lost)) {
                        lost |= 1 << i;
                        live[f.from[i]]--;
                        live[f.to[i]]--;
                    }
                }
            }
            return lost;
        }

        private boolean hangsLoose(Figure f, int i, int lost) {
            boolean ahead = i > 0 && f.twistBehind(i - 1) && (lost & (1 << (i - 1))) != 0;
            if (ahead && live[f.from[i]] < LOCKING_ENDS) {
                return true;
            }
            boolean behind = f.twistBehind(i) && (lost & (1 << (i + 1))) != 0;
            return behind && live[f.to[i]] < LOCKING_ENDS;
        }

        void countLive(Figure f, int lost) {
            Arrays.fill(live, 0);
            for (int i = 0; i < f.bubbles; i++) {
                if ((lost & (1 << i)) == 0) {
                    live[f.from[i]]++;
                    live[f.to[i]]++;
                }
            }
        }

        int liveEndsOf(Figure f, int bubble) {
            return live[f.from[bubble]] + live[f.to[bubble]];
        }

        int weakestOf(Figure f) {
            int weakest = NONE;
            int most = 0;
            for (int i = 0; i < f.bubbles; i++) {
                int lost = Integer.bitCount(lostWith(f, 1 << i));
                if (lost > most) {
                    most = lost;
                    weakest = i;
                }
            }
            return weakest;
        }

        /** FALLS: points at which nothing is left are no parts. */
        int parts(Figure f, int lost) {
            int parts = 0;
            countLive(f, lost);
            for (int p = 0; p < f.points; p++) {
                group[p] = p;
                parts += live[p] > 0 ? 1 : 0;
            }
            for (int i = 0; i < f.bubbles; i++) {
                if ((lost & (1 << i)) == 0 && group[f.from[i]] != group[f.to[i]]) {
                    mergeGroups(f.points, group[f.from[i]], group[f.to[i]]);
                    parts--;
                }
            }
            return parts;
        }

        private void mergeGroups(int points, int one, int other) {
            for (int p = 0; p < points; p++) {
                group[p] = group[p] == other ? one : group[p];
            }
        }

        /** A part takes a balloon for each two of its odd points, and one if it has none. */
        int strokesOf(Figure f) {
            int strokes = parts(f, 0);
            int groupsWithOdd = 0;
            int odd = f.oddPoints();
            for (int p = 0; p < f.points; p++) {
                if ((odd & (1 << p)) != 0) {
                    groupsWithOdd |= 1 << group[p];
                }
            }
            return strokes - Integer.bitCount(groupsWithOdd) + Integer.bitCount(odd) / 2;
        }

        /** FAR of each point from this one, NONE where it can not be reached. */
        void measure(Figure f, int start) {
            Arrays.fill(away, NONE);
            away[start] = 0;
            boolean changed = true;
            for (int round = 0; round < f.points && changed; round++) {
                changed = false;
                for (int i = 0; i < f.bubbles; i++) {
                    changed |= shortens(f.from[i], f.to[i], f.length[i]);
                    changed |= shortens(f.to[i], f.from[i], f.length[i]);
                }
            }
        }

        private boolean shortens(int near, int next, int length) {
            if (away[near] == NONE || away[next] != NONE && away[next] <= away[near] + length) {
                return false;
            }
            away[next] = away[near] + length;
            return true;
        }

        int spanOf(Figure f) {
            int span = 0;
            for (int p = 0; p < f.points; p++) {
                measure(f, p);
                for (int q = 0; q < f.points; q++) {
                    span = Math.max(span, away[q]);
                }
            }
            return span;
        }

        /** Tries each choice of bubbles made twice, one bubble changing from choice to choice (a Gray code). */
        int leastTwice(Figure f) {
            if (f.bubbles > MOST_TWICE || parts(f, 0) > 1) {
                return NONE;
            }
            int odd = f.oddPoints();
            if (Integer.bitCount(odd) <= 2) {
                return 0;
            }
            int doubled = 0;
            int length = 0;
            int least = BEYOND;
            for (int step = 1; step < 1 << f.bubbles; step++) {
                int i = Integer.numberOfTrailingZeros(step);
                doubled ^= 1 << i;
                odd ^= f.endBits(i);
                length += (doubled & (1 << i)) != 0 ? f.length[i] : -f.length[i];
                if (length < least && Integer.bitCount(odd) <= 2) {
                    least = length;
                }
            }
            return least;
        }
    }

    /** Matches the points of two figures. */
    private static final class Matcher {
        private static final int MOST = 8;
        private static final int MOST_TRIALS = 1_000_000;

        final int[] row = new int[MOST];
        private final int[] firstKinds = new int[MOST * MOST];
        private final int[] secondKinds = new int[MOST * MOST];
        private final int[] kindBefore = new int[2 * MOST_BUBBLES];
        private final int[] kindLength = new int[2 * MOST_BUBBLES];
        private int kinds;
        private int points;
        private Figure latestFirst;
        private Figure latestSecond;
        private boolean latestMatched;

        static boolean mayCompare(Figure f) {
            return f != null && f.points <= MOST;
        }

        /** The latest two are kept, for a match is asked point by point and figures never change. */
        boolean matches(Figure first, Figure second) {
            if (latestFirst != first || latestSecond != second) {
                latestFirst = first;
                latestSecond = second;
                latestMatched = first.points == second.points && first.bubbles == second.bubbles
                    && findRow(first, second);
            }
            return latestMatched;
        }

        private boolean findRow(Figure first, Figure second) {
            points = first.points;
            kinds = 0;
            tellKinds(first, firstKinds);
            tellKinds(second, secondKinds);
            return searchRow();
        }

        /** Two pairs of points get the same kind just when as many bubbles of each length lie between them. */
        private void tellKinds(Figure f, int[] kindsOf) {
            Arrays.fill(kindsOf, NONE);
            int done = 0;
            for (int turn = 0; turn < f.bubbles; turn++) {
                int i = shortest(f, done);
                done |= 1 << i;
                int one = f.from[i] * MOST + f.to[i];
                int other = f.to[i] * MOST + f.from[i];
                int kind = kindBehind(kindsOf[one], f.length[i]);
                kindsOf[one] = kind;
                kindsOf[other] = kind;
            }
        }

        private static int shortest(Figure f, int done) {
            int shortest = 0;
            int least = BEYOND;
            for (int i = 0; i < f.bubbles; i++) {
                if ((done & (1 << i)) == 0 && f.length[i] < least) {
                    least = f.length[i];
                    shortest = i;
                }
            }
            return shortest;
        }

        private int kindBehind(int before, int length) {
            for (int i = 0; i < kinds; i++) {
                if (kindBefore[i] == before && kindLength[i] == length) {
                    return i;
                }
            }
            if (kinds < kindBefore.length) {
                kindBefore[kinds] = before;
                kindLength[kinds] = length;
                kinds++;
            }
            return kinds - 1;
        }

        /** Goes through the rows from the lowest on, so that the first found is the MATCH. */
        private boolean searchRow() {
            int depth = 0;
            int used = 0;
            row[0] = NONE;
            for (int trial = 0; trial < MOST_TRIALS && depth >= 0 && depth < points; trial++) {
                if (row[depth] != NONE) {
                    used &= ~(1 << row[depth]);
                }
                row[depth] = nextFitting(depth, row[depth] + 1, used);
                if (row[depth] == NONE) {
                    depth--;
                } else {
                    used |= 1 << row[depth];
                    depth++;
                    if (depth < points) {
                        row[depth] = NONE;
                    }
                }
            }
            return depth == points;
        }

        private int nextFitting(int depth, int lowest, int used) {
            for (int q = lowest; q < points; q++) {
                if ((used & (1 << q)) == 0 && fits(depth, q)) {
                    return q;
                }
            }
            return NONE;
        }

        private boolean fits(int depth, int q) {
            if (firstKinds[depth * MOST + depth] != secondKinds[q * MOST + q]) {
                return false;
            }
            if (latestFirst.endsAt[depth] != latestSecond.endsAt[q]) {
                return false;
            }
            for (int p = 0; p < depth; p++) {
                if (firstKinds[depth * MOST + p] != secondKinds[q * MOST + row[p]]) {
                    return false;
                }
            }
            return true;
        }
    }

    /** The fewest balloons of a sort that make a figure; what was found is kept, for figures and sorts never change. */
    private static final class Maker {
        static final int MOST_MADE = 10;
        private static final int CHOICES = 1 << MOST_MADE;
        private static final int CAN_NOT = 99;
        private static final int UNKNOWN = -2;
        private static final int PLACES = MOST_FIGURES * MOST_SORTS;

        private final int[] length = new int[CHOICES];
        private final int[] touched = new int[CHOICES];
        private final int[] odd = new int[CHOICES];
        private final int[] fewest = new int[CHOICES];
        private final boolean[] whole = new boolean[CHOICES];
        private final boolean[] makeable = new boolean[CHOICES];
        private final int[] found = new int[PLACES];
        private final int[] sets = new int[PLACES * MOST_MADE];

        Maker() {
            Arrays.fill(found, UNKNOWN);
        }

        int fewestFor(Figure f, int figure, int sort, Sorts sorts) {
            int place = figure * MOST_SORTS + sort;
            if (found[place] == UNKNOWN) {
                tellChoices(f, sorts.air[sort], sorts.strain[sort]);
                countFewest(f.allBubbles());
                found[place] = fewest[f.allBubbles()] >= CAN_NOT ? NONE : keepSets(f.allBubbles(), place);
            }
            return found[place];
        }

        int setAt(int figure, int sort, int i) {
            return i < 0 || i >= MOST_MADE ? NONE : sets[(figure * MOST_SORTS + sort) * MOST_MADE + i];
        }

        /** A set of bubbles is one balloon's way, if it hangs together with two odd points at most. */
        private void tellChoices(Figure f, int air, int strain) {
            length[0] = -strain;
            touched[0] = 0;
            odd[0] = 0;
            for (int choice = 1; choice <= f.allBubbles(); choice++) {
                int lowest = Integer.numberOfTrailingZeros(choice);
                int others = choice & (choice - 1);
                length[choice] = length[others] + f.length[lowest] + strain;
                touched[choice] = touched[others] | (1 << f.from[lowest]) | (1 << f.to[lowest]);
                odd[choice] = odd[others] ^ f.endBits(lowest);
                whole[choice] = others == 0 || hangsTogether(f.bubbles, choice);
                makeable[choice] = whole[choice] && length[choice] <= air && Integer.bitCount(odd[choice]) <= 2;
            }
        }

        /** Of bubbles that hang together, there is always one without which the others still do. */
        private boolean hangsTogether(int bubbles, int choice) {
            for (int i = 0; i < bubbles; i++) {
                int one = 1 << i;
                int others = choice ^ one;
                if ((choice & one) != 0 && whole[others] && (touched[others] & touched[one]) != 0) {
                    return true;
                }
            }
            return false;
        }

        private void countFewest(int all) {
            fewest[0] = 0;
            for (int choice = 1; choice <= all; choice++) {
                fewest[choice] = fewestOf(choice);
            }
        }

        /** Tries each set of the lowest bubble and some of the others: there are as many as the others have subsets. */
        private int fewestOf(int choice) {
            int lowest = choice & -choice;
            int others = choice ^ lowest;
            int more = others;
            int least = CAN_NOT;
            for (int untried = 1 << Integer.bitCount(others); untried > 0; untried--) {
                if (makeable[lowest | more]) {
                    least = Math.min(least, fewest[others ^ more] + 1);
                }
                more = (more - 1) & others;
            }
            return least;
        }

        private int keepSets(int all, int place) {
            int left = all;
            int many = 0;
            while (left != 0 && many < MOST_MADE) {
                int first = lowestSet(left);
                sets[place * MOST_MADE + many] = first;
                left &= ~first;
                many++;
            }
            return many;
        }

        private int lowestSet(int left) {
            int lowest = left & -left;
            for (int choice = lowest; choice < left; choice++) {
                boolean inside = (choice & lowest) != 0 && (choice & ~left) == 0;
                if (inside && makeable[choice] && fewest[left ^ choice] + 1 == fewest[left]) {
                    return choice;
                }
            }
            return left;
        }
    }

    /** A RULE in the order in which it is reckoned: numbers, letters, jumps, and signs below 0. */
    private static final class Rule {
        static final int LETTER = 10_000;
        static final int JUMP = 20_000;
        static final int MOST_STEPS = MOST_BYTES + 1;
        private static final long BOUND = 1_000_000;

        final int[] steps = new int[MOST_STEPS];
        int size;

        void copy(Rule other) {
            System.arraycopy(other.steps, 0, steps, 0, MOST_STEPS);
            size = other.size;
        }

        int worthBy(int[] letters, long[] values) {
            int top = 0;
            for (int i = 0; i < size; i++) {
                int step = steps[i];
                if (step == -';') {
                    return top > 0 ? (int) values[top - 1] : 0;
                }
                if (step >= JUMP) {
                    boolean goesOn = top > 0 && values[top - 1] != 0;
                    top = 0;
                    i = goesOn ? i : Math.max(i, step - JUMP - 1);
                } else if (step < 0) {
                    top = reckon(-step, values, top);
                } else if (top < values.length) {
                    values[top] = step >= LETTER ? letters[step - LETTER] : step;
                    top++;
                }
            }
            return 0;
        }

        private static int reckon(int sign, long[] values, int top) {
            if (sign == '!' && top >= 1) {
                values[top - 1] = values[top - 1] == 0 ? 1 : 0;
                return top;
            }
            if (top < 2) {
                return top;
            }
            values[top - 2] = joined(sign, values[top - 2], values[top - 1]);
            return top - 1;
        }

        private static long joined(int sign, long x, long y) {
            switch (sign) {
                case '+':
                    return within(x + y);
                case '-':
                    return within(x - y);
                case '*':
                    return within(x * y);
                case '/':
                    return y == 0 ? 0 : within(x / y);
                case '=':
                    return x == y ? 1 : 0;
                case '<':
                    return x < y ? 1 : 0;
                case '>':
                    return x > y ? 1 : 0;
                case '&':
                    return x & y;
                default:
                    return x | y;
            }
        }

        private static long within(long x) {
            return Math.max(-BOUND, Math.min(BOUND, x));
        }
    }

    /** Reads a tape as a RULE, byte by byte, into its draft; signs wait until those that bind closer are told. */
    private static final class RuleReader {
        private static final int W = 0;
        private static final int COLON = 1;
        private static final int UNIT = 2;
        private static final int ATOM = 3;
        private static final int BEHIND = 4;

        /** What the SUM is that is being read; FIRST may turn out to be LEFT. */
        private static final int FIRST = 0;
        private static final int LEFT = 1;
        private static final int RIGHT = 2;
        private static final int VALUE = 3;
        private static final int BRACKET = 4;
        /** Not a SUM, but a ( CONDITION ) that has been closed. */
        private static final int CLOSED = 5;

        final Rule draft = new Rule();
        final long[] values = new long[MOST_BYTES];
        private final int[] waiting = new int[MOST_BYTES];
        private final int[] kindOutside = new int[MOST_BYTES];
        private int waits;
        private int place;
        private int kind;
        private int nested;
        private int parens;
        private int digits;
        private int jump;

        int read(Tape tape) {
            begin();
            for (int i = 0; i < tape.length; i++) {
                if (!takes(tape.at(i))) {
                    return i;
                }
            }
            return place == BEHIND && endsClause() ? NONE : tape.length;
        }

        private void begin() {
            draft.size = 0;
            waits = 0;
            place = W;
            kind = FIRST;
            nested = 0;
            parens = 0;
            digits = 0;
            jump = NONE;
        }

        private boolean takes(int sign) {
            if (isDigit(sign)) {
                return takesDigit(sign - '0');
            }
            digits = 0;
            if (sign == ' ') {
                return true;
            }
            switch (place) {
                case W:
                    place = COLON;
                    return sign == 'w';
                case COLON:
                    place = UNIT;
                    kind = FIRST;
                    return sign == ':';
                case UNIT:
                    return sign == '!' || sign == '(' ? opensUnit(sign) : takesAtom(sign);
                case ATOM:
                    return takesAtom(sign);
                default:
                    return takesSign(sign);
            }
        }

        private boolean takesDigit(int digit) {
            if (digits > 0 && digits < 4) {
                int last = draft.size - 1;
                if (last >= 0) {
                    draft.steps[last] = draft.steps[last] * 10 + digit;
                }
                digits++;
                return true;
            }
            if (place != UNIT && place != ATOM) {
                return false;
            }
            tell(digit);
            digits = 1;
            place = BEHIND;
            return true;
        }

        private boolean opensUnit(int sign) {
            if (nested >= MOST_NESTED) {
                return false;
            }
            kind = LEFT;
            nested++;
            parens += sign == '(' ? 1 : 0;
            await(sign);
            return true;
        }

        private boolean takesAtom(int sign) {
            if (sign == '[') {
                return opensBracket();
            }
            int letter = letterOf(sign);
            if (letter == NONE) {
                return false;
            }
            tell(Rule.LETTER + letter);
            place = BEHIND;
            return true;
        }

        private static int letterOf(int sign) {
            switch (sign) {
                case 'l':
                    return 0;
                case 'h':
                    return 1;
                case 'k':
                    return 2;
                case 's':
                    return 3;
                case 'a':
                    return 4;
                default:
                    return NONE;
            }
        }

        private boolean opensBracket() {
            if (nested >= MOST_NESTED) {
                return false;
            }
            nested++;
            await('[');
            kind = BRACKET;
            place = ATOM;
            return true;
        }

        private boolean takesSign(int sign) {
            switch (sign) {
                case '+':
                case '-':
                case '*':
                case '/':
                    return kind != CLOSED && joins(sign, ATOM, kind);
                case '=':
                case '<':
                case '>':
                    return (kind == FIRST || kind == LEFT) && joins(sign, ATOM, RIGHT);
                case '&':
                case '|':
                    return unitIsWhole() && joins(sign, UNIT, LEFT);
                case ')':
                    return unitIsWhole() && parens > 0 && closes('(', CLOSED);
                case ']':
                    return kind == BRACKET && closes('[', NONE);
                case '?':
                    return unitIsWhole() && parens == 0 && endsCondition();
                case ';':
                    return endsClause();
                default:
                    return false;
            }
        }

        private boolean unitIsWhole() {
            return kind == RIGHT || kind == CLOSED;
        }

        private boolean joins(int sign, int nextPlace, int nextKind) {
            tellWaiting(tightness(sign));
            await(sign);
            place = nextPlace;
            kind = nextKind;
            return true;
        }

        /** Behind a bracket the SUM around it goes on: NONE as kind asks for that one's. */
        private boolean closes(int opening, int nextKind) {
            tellWaiting(1);
            if (waits <= 0 || waiting[waits - 1] != opening) {
                return false;
            }
            waits--;
            nested--;
            parens -= opening == '(' ? 1 : 0;
            kind = nextKind == NONE ? kindOutside[waits] : nextKind;
            return true;
        }

        private boolean endsCondition() {
            tellWaiting(1);
            jump = draft.size;
            tell(Rule.JUMP);
            place = ATOM;
            kind = VALUE;
            return true;
        }

        private boolean endsClause() {
            if (kind != FIRST && kind != VALUE) {
                return false;
            }
            tellWaiting(1);
            tell(-';');
            if (jump != NONE) {
                draft.steps[jump] = Rule.JUMP + draft.size;
            }
            jump = NONE;
            place = W;
            return true;
        }

        private static int tightness(int sign) {
            switch (sign) {
                case '|':
                    return 1;
                case '&':
                    return 2;
                case '!':
                    return 3;
                case '=':
                case '<':
                case '>':
                    return 4;
                case '+':
                case '-':
                    return 5;
                case '*':
                case '/':
                    return 6;
                default:
                    return 0;
            }
        }

        private void tellWaiting(int least) {
            while (waits > 0 && tightness(waiting[waits - 1]) >= least) {
                waits--;
                nested -= waiting[waits] == '!' ? 1 : 0;
                tell(-waiting[waits]);
            }
        }

        private void await(int sign) {
            if (waits < MOST_BYTES) {
                waiting[waits] = sign;
                kindOutside[waits] = kind;
                waits++;
            }
        }

        private void tell(int step) {
            if (draft.size < Rule.MOST_STEPS) {
                draft.steps[draft.size] = step;
                draft.size++;
            }
        }
    }

    /** A figure's hours under a rule, kept for the latest two, for they are asked hour by hour. */
    private static final class Ageing {
        final int[] lost = new int[MOST_HOURS + 1];
        private final int[] lengths = new int[(MOST_HOURS + 1) * MOST_BUBBLES];
        private final int[] letters = new int[LETTERS];
        private final long[] values = new long[MOST_BYTES];
        private Figure figure;
        private Rule rule;
        private int known;

        void turnTo(Figure f, Rule r) {
            if (figure == f && rule == r) {
                return;
            }
            figure = f;
            rule = r;
            known = 0;
            lost[0] = 0;
            System.arraycopy(f.length, 0, lengths, 0, MOST_BUBBLES);
        }

        int lengthAt(int hour, int bubble) {
            return lengths[hour * MOST_BUBBLES + bubble];
        }

        void reach(int hours, Figure f, Rule r, Sorts sorts, Net net) {
            int last = Math.min(hours, MOST_HOURS);
            for (int hour = known + 1; hour <= last; hour++) {
                ageOneHour(hour, f, r, sorts, net);
                known = hour;
            }
        }

        private void ageOneHour(int hour, Figure f, Rule r, Sorts sorts, Net net) {
            int gone = lost[hour - 1];
            net.countLive(f, gone);
            for (int i = 0; i < f.bubbles; i++) {
                int length = lengthAt(hour - 1, i);
                if (length > 0) {
                    tellLetters(length, hour, net.liveEndsOf(f, i), f.sortOf[f.balloonOf[i]], sorts);
                    length -= Math.max(0, Math.min(length, r.worthBy(letters, values)));
                    gone |= length == 0 ? 1 << i : 0;
                }
                lengths[hour * MOST_BUBBLES + i] = length;
            }
            lost[hour] = gone == lost[hour - 1] ? gone : net.lostWith(f, gone);
            clearLost(f.bubbles, hour);
        }

        private void clearLost(int bubbles, int hour) {
            for (int i = 0; i < bubbles; i++) {
                if ((lost[hour] & (1 << i)) != 0) {
                    lengths[hour * MOST_BUBBLES + i] = 0;
                }
            }
        }

        private void tellLetters(int length, int hour, int ends, int sort, Sorts sorts) {
            letters[0] = length;
            letters[1] = hour;
            letters[2] = ends;
            letters[3] = sorts.strain[sort];
            letters[4] = sorts.air[sort];
        }
    }

    /** The stall: its stock and pace, its guests, and how the latest RUN went. */
    private static final class Stall {
        private static final int SERVED = 0;
        private static final int LEFT = 1;
        private static final int TURNED = 2;
        private static final int UNFINISHED = 3;

        final int[] stock = new int[MOST_SORTS];
        int bubbleTicks = 1;
        int balloonTicks;
        int guests;
        int ran;
        final int[] outcome = new int[MOST_GUESTS];
        final int[] began = new int[MOST_GUESTS];
        final int[] ended = new int[MOST_GUESTS];
        final int[] taken = new int[MOST_GUESTS];
        private final int[] came = new int[MOST_GUESTS];
        private final int[] wanted = new int[MOST_GUESTS];
        private final int[] patience = new int[MOST_GUESTS];
        private final int[] there = new int[MOST_SORTS];
        private final int[] needed = new int[MOST_SORTS];
        private long chance;

        int queue(int tick, int figure, int itsPatience) {
            if (guests >= MOST_GUESTS || guests > 0 && tick < came[guests - 1]) {
                return NONE;
            }
            came[guests] = tick;
            wanted[guests] = figure;
            patience[guests] = itsPatience;
            return guests++;
        }

        int clear() {
            int were = guests;
            guests = 0;
            ran = 0;
            return were;
        }

        int serveAll(Figure[] figures, Sorts sorts, long seed) {
            System.arraycopy(stock, 0, there, 0, MOST_SORTS);
            chance = seed;
            int free = 0;
            int served = 0;
            for (int g = 0; g < guests; g++) {
                began[g] = Math.max(free, came[g]);
                ended[g] = began[g];
                taken[g] = 0;
                outcome[g] = outcomeFor(g, figures[wanted[g]], sorts);
                free = ended[g];
                served += outcome[g] == SERVED ? 1 : 0;
            }
            ran = guests;
            return served;
        }

        private int outcomeFor(int g, Figure f, Sorts sorts) {
            if (began[g] - came[g] > patience[g]) {
                return LEFT;
            }
            if (!isThere(f)) {
                return TURNED;
            }
            for (int b = 0; b < f.balloons; b++) {
                int sort = f.sortOf[b];
                if (!makesBalloon(g, sort, balloonTicks + bubbleTicks * f.bubblesOf(b), sorts.chance[sort])) {
                    return UNFINISHED;
                }
            }
            return SERVED;
        }

        private boolean isThere(Figure f) {
            Arrays.fill(needed, 0);
            for (int b = 0; b < f.balloons; b++) {
                needed[f.sortOf[b]]++;
            }
            for (int s = 0; s < MOST_SORTS; s++) {
                if (there[s] < needed[s]) {
                    return false;
                }
            }
            return true;
        }

        private boolean makesBalloon(int g, int sort, int ticks, int popChance) {
            while (there[sort] > 0) {
                there[sort]--;
                taken[g]++;
                ended[g] += ticks;
                chance = chance * 6364136223846793005L + 1442695040888963407L;
                if ((chance >>> 33) % 100 >= popChance) {
                    return true;
                }
            }
            return false;
        }
    }
}
