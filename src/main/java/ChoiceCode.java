import java.util.Arrays;

/**
 * A maker of code for choices: cases told as spans of numbers become runs, these clusters, these a
 * tree of comparisons, and this a row of lines that can be read, run and held against the cases.
 *
 * <p>No method throws: an index is tested where it is used, and a wrong call is answered by one of
 * the constants.
 */
public final class ChoiceCode {
    public static final int NONE = -1, UNKNOWN = -101, OUTSIDE = -102, STATE = -103, FULL = -104;

    private static final int MOST_CASES = 24;
    private static final int MOST_TARGET = 15;
    private static final int MOST_WEIGHT = 1000;
    private static final int MOST_DENSITY = 100;
    private static final int MOST_SIZE = 256;
    private static final int MOST_BITS = 64;
    private static final int MOST_UNLIKE = 3;
    private static final int MOST_LINES = 400;
    // A table has two runs or more, so half as many tables as cases is all that can be.
    private static final int MOST_NUMBERS = MOST_CASES / 2 * MOST_SIZE;
    // Twelve full tables come to some ten thousand bytes; the row of bytes never needs this much.
    private static final int MOST_BYTES = 65536;

    private static final int BALANCED = 0, CHEAPEST = 1;
    private static final int KIND_SPAN = 0, KIND_BITS = 1, KIND_TABLE = 2;
    private static final int LESS = 0, MORE = 1, SAME = 2, END = 3, BIT = 4, TABLE = 5;

    private final Spans cases = new Spans();
    private final Spans runs = new Spans();
    private final Clusters clusters = new Clusters(runs);
    private final Tree tree = new Tree(clusters);
    private final Code code = new Code(runs, clusters, tree);
    private final Text text = new Text();

    private int restTarget = 0;
    private int restWeight = 0;
    private int density = 40;
    private int size = 64;
    private int wayOfTree = BALANCED;
    private int clashed = NONE;
    // What follows from the cases is worked out only when it is asked after a change.
    private boolean stale = true;

    public ChoiceCode() {
    }

    // ---- cases

    public int add(int low, int high, int target, int weight) {
        if (low > high || !isTarget(target) || !isWeight(weight)) {
            return OUTSIDE;
        }
        int met = cases.firstMeeting(low, high);
        if (met != NONE) {
            clashed = met;
            return STATE;
        }
        int c = cases.firstFree();
        if (c == NONE) {
            return FULL;
        }
        cases.set(c, low, high, target, weight);
        stale = true;
        return c;
    }

    public int clash() {
        return clashed;
    }

    public int drop(int c) {
        if (!cases.has(c)) {
            return UNKNOWN;
        }
        cases.free(c);
        stale = true;
        return cases.held();
    }

    public int rest(int target, int weight) {
        if (!isTarget(target) || !isWeight(weight)) {
            return OUTSIDE;
        }
        int before = restTarget;
        restTarget = target;
        restWeight = weight;
        stale = true;
        return before;
    }

    public int tables(int density, int size) {
        if (!within(density, 1, MOST_DENSITY) || !within(size, 1, MOST_SIZE)) {
            return OUTSIDE;
        }
        int before = this.density;
        this.density = density;
        this.size = size;
        stale = true;
        return before;
    }

    public int way(int way) {
        if (!within(way, BALANCED, CHEAPEST)) {
            return OUTSIDE;
        }
        int before = wayOfTree;
        wayOfTree = way;
        stale = true;
        return before;
    }

    public int told(int c, int what) {
        return cases.tell(c, what);
    }

    // ---- what becomes of them

    public int count(int what) {
        workOut();
        switch (what) {
            case 0:
                return cases.held();
            case 1:
                return runs.held();
            case 2:
                return clusters.held();
            case 3:
                return Math.max(0, clusters.held() - 1);
            case 4:
                return code.length();
            case 5:
                return code.numbersInTables();
            case 6:
                return text.length();
            case 7:
                return mostSteps();
            default:
                return OUTSIDE;
        }
    }

    public int run(int r, int what) {
        workOut();
        return runs.tell(r, what);
    }

    public int cluster(int c, int what) {
        workOut();
        if (!clusters.has(c)) {
            return UNKNOWN;
        }
        switch (what) {
            case 0:
                return clusters.kind(c);
            case 1:
                return clusters.firstRun(c);
            case 2:
                return clusters.runsOf(c);
            case 3:
                return clusters.weight(c);
            case 4:
                return tree.questionsAbove(c);
            default:
                return OUTSIDE;
        }
    }

    public int cost() {
        workOut();
        int sum = 0;
        for (int c = 0; c < clusters.held(); c++) {
            sum += (clusters.weight(c) + 1) * tree.questionsAbove(c);
        }
        return sum;
    }

    public int line(int i, int what) {
        workOut();
        if (!code.has(i)) {
            return UNKNOWN;
        }
        switch (what) {
            case 0:
                return code.kind(i);
            case 1:
                return code.first(i);
            case 2:
                return code.second(i);
            default:
                return OUTSIDE;
        }
    }

    public long bits(int i) {
        workOut();
        return code.has(i) ? code.row(i) : UNKNOWN;
    }

    public int entry(int i, int k) {
        workOut();
        return code.has(i) ? code.number(i, k) : UNKNOWN;
    }

    // ---- running

    public int go(int x) {
        workOut();
        code.follow(x);
        return code.target();
    }

    public int steps(int x) {
        workOut();
        return stepsOf(x);
    }

    public int by(int x) {
        int c = cases.firstMeeting(x, x);
        return c == NONE ? restTarget : cases.target(c);
    }

    public long spent() {
        workOut();
        long sum = 0L;
        for (int c = 0; c < MOST_CASES; c++) {
            if (cases.has(c)) {
                sum += (long) cases.weight(c) * stepsOf(cases.low(c));
            }
        }
        long x = leastInNoCase();
        if (x <= Integer.MAX_VALUE) {
            sum += (long) restWeight * stepsOf((int) x);
        }
        return sum;
    }

    public int print() {
        workOut();
        text.clear();
        code.printTo(text);
        return text.length();
    }

    public int out(int i) {
        return text.byteAt(i);
    }

    // ---- what the calls share

    private static boolean within(int value, int least, int most) {
        return value >= least && value <= most;
    }

    private static boolean isTarget(int value) {
        return within(value, 0, MOST_TARGET);
    }

    private static boolean isWeight(int value) {
        return within(value, 0, MOST_WEIGHT);
    }

    private void workOut() {
        if (!stale) {
            return;
        }
        runs.gather(cases, restTarget);
        clusters.part(density, size);
        tree.plan(wayOfTree);
        code.layOut(restTarget);
        stale = false;
    }

    private int stepsOf(int x) {
        code.follow(x);
        return code.linesDone();
    }

    /** All ints of a run's one gap or of a run take one way, so one of each is enough. */
    private int mostSteps() {
        int most = stepsOf(Integer.MIN_VALUE);
        for (int r = 0; r < runs.held(); r++) {
            most = Math.max(most, stepsOf(runs.low(r)));
            if (runs.high(r) < Integer.MAX_VALUE) {
                most = Math.max(most, stepsOf(runs.high(r) + 1));
            }
        }
        return most;
    }

    /** One above the greatest int, if the cases hold all ints. */
    private long leastInNoCase() {
        long x = Integer.MIN_VALUE;
        for (int k = 0; k < MOST_CASES && x <= Integer.MAX_VALUE; k++) {
            int c = cases.firstMeeting((int) x, (int) x);
            if (c == NONE) {
                return x;
            }
            x = cases.high(c) + 1L;
        }
        return x;
    }

    /** Spans of ints with targets and weights, by their numbers: the cases, and the runs. */
    private static final class Spans {
        private final int[] lows = new int[MOST_CASES];
        private final int[] highs = new int[MOST_CASES];
        // NONE marks a free place.
        private final int[] targets = new int[MOST_CASES];
        private final int[] weights = new int[MOST_CASES];
        private int held = 0;

        Spans() {
            Arrays.fill(targets, NONE);
        }

        boolean has(int i) {
            return i >= 0 && i < MOST_CASES && targets[i] != NONE;
        }

        int held() {
            return held;
        }

        int low(int i) {
            return i >= 0 && i < MOST_CASES ? lows[i] : 0;
        }

        int high(int i) {
            return i >= 0 && i < MOST_CASES ? highs[i] : 0;
        }

        int target(int i) {
            return i >= 0 && i < MOST_CASES ? targets[i] : NONE;
        }

        int weight(int i) {
            return i >= 0 && i < MOST_CASES ? weights[i] : 0;
        }

        int tell(int i, int what) {
            if (!has(i)) {
                return UNKNOWN;
            }
            switch (what) {
                case 0:
                    return lows[i];
                case 1:
                    return highs[i];
                case 2:
                    return targets[i];
                case 3:
                    return weights[i];
                default:
                    return OUTSIDE;
            }
        }

        int firstFree() {
            for (int i = 0; i < MOST_CASES; i++) {
                if (targets[i] == NONE) {
                    return i;
                }
            }
            return NONE;
        }

        int firstMeeting(int low, int high) {
            for (int i = 0; i < MOST_CASES; i++) {
                if (targets[i] != NONE && lows[i] <= high && low <= highs[i]) {
                    return i;
                }
            }
            return NONE;
        }

        /** Spans have no int in common, so no two have one low. */
        int nextByLow(long after) {
            int next = NONE;
            long least = Long.MAX_VALUE;
            for (int i = 0; i < MOST_CASES; i++) {
                if (targets[i] != NONE && lows[i] > after && lows[i] < least) {
                    next = i;
                    least = lows[i];
                }
            }
            return next;
        }

        void set(int i, int low, int high, int target, int weight) {
            if (i < 0 || i >= MOST_CASES) {
                return;
            }
            if (targets[i] == NONE) {
                held++;
            }
            lows[i] = low;
            highs[i] = high;
            targets[i] = target;
            weights[i] = weight;
        }

        void free(int i) {
            if (has(i)) {
                targets[i] = NONE;
                held--;
            }
        }

        /** The runs of the cases take the places 0, 1 and on. */
        void gather(Spans cases, int restTarget) {
            Arrays.fill(targets, NONE);
            held = 0;
            int c = cases.nextByLow(Long.MIN_VALUE);
            for (int k = 0; k < MOST_CASES && c != NONE; k++) {
                if (cases.target(c) != restTarget) {
                    join(cases.low(c), cases.high(c), cases.target(c), cases.weight(c));
                }
                c = cases.nextByLow(cases.low(c));
            }
        }

        private void join(int low, int high, int target, int weight) {
            int last = held - 1;
            if (has(last) && targets[last] == target && highs[last] + 1L == low) {
                highs[last] = high;
                weights[last] += weight;
            } else {
                set(held, low, high, target, weight);
            }
        }

        int unlikeTargets(int first, int last) {
            int seen = 0;
            for (int i = first; i <= last && i < MOST_CASES; i++) {
                seen |= 1 << target(i);
            }
            return Integer.bitCount(seen);
        }

        long intsIn(int first, int last) {
            long sum = 0L;
            for (int i = first; i <= last && i < MOST_CASES; i++) {
                sum += (long) high(i) - low(i) + 1L;
            }
            return sum;
        }

        int weightOf(int first, int last) {
            int sum = 0;
            for (int i = first; i <= last && i < MOST_CASES; i++) {
                sum += weight(i);
            }
            return sum;
        }

        /** Bit k stands for the first low and k. */
        long rowOfBits(int first, int last, int target) {
            if (first < 0 || first >= MOST_CASES) {
                return 0L;
            }
            long row = 0L;
            for (int i = first; i <= last && i < MOST_CASES; i++) {
                if (targets[i] == target) {
                    long from = (long) lows[i] - lows[first];
                    long to = Math.min((long) highs[i] - lows[first], MOST_BITS - 1L);
                    for (long k = from; k <= to; k++) {
                        row |= 1L << k;
                    }
                }
            }
            return row;
        }
    }

    /** The runs parted into clusters. */
    private static final class Clusters {
        private final Spans runs;
        private final int[] kinds = new int[MOST_CASES];
        private final int[] firsts = new int[MOST_CASES];
        private final int[] lasts = new int[MOST_CASES];
        private final int[] weights = new int[MOST_CASES];
        // For the runs from i on: how few clusters do, and the last run of the first of these.
        private final int[] fewest = new int[MOST_CASES + 1];
        private final int[] ends = new int[MOST_CASES + 1];
        private int density = 0;
        private int size = 0;
        private int held = 0;

        Clusters(Spans runs) {
            this.runs = runs;
        }

        boolean has(int c) {
            return c >= 0 && c < held;
        }

        int held() {
            return held;
        }

        int kind(int c) {
            return c >= 0 && c < MOST_CASES ? kinds[c] : NONE;
        }

        int firstRun(int c) {
            return c >= 0 && c < MOST_CASES ? firsts[c] : NONE;
        }

        int lastRun(int c) {
            return c >= 0 && c < MOST_CASES ? lasts[c] : NONE;
        }

        int weight(int c) {
            return c >= 0 && c < MOST_CASES ? weights[c] : 0;
        }

        int runsOf(int c) {
            return lastRun(c) - firstRun(c) + 1;
        }

        int bottom(int c) {
            return runs.low(firstRun(c));
        }

        int top(int c) {
            return runs.high(lastRun(c));
        }

        void part(int density, int size) {
            this.density = density;
            this.size = size;
            findFewest();
            held = 0;
            int first = 0;
            for (int c = 0; c < MOST_CASES && first >= 0 && first < runs.held() && first < MOST_CASES; c++) {
                kinds[c] = kindOf(first, ends[first]);
                firsts[c] = first;
                lasts[c] = ends[first];
                weights[c] = runs.weightOf(first, ends[first]);
                held++;
                first = ends[first] + 1;
            }
        }

        /** From the back, since a dense row may hold one that is not dense: no short cut is sure. */
        private void findFewest() {
            int n = Math.min(runs.held(), MOST_CASES);
            if (n >= 0 && n <= MOST_CASES) {
                fewest[n] = 0;
            }
            for (int i = n - 1; i >= 0; i--) {
                fewest[i] = fewest[i + 1] + 1;
                ends[i] = i;
                for (int j = i + 1; j < n; j++) {
                    // Of like ones the later: it has more runs.
                    if (fewest[j + 1] + 1 <= fewest[i] && kindOf(i, j) != NONE) {
                        fewest[i] = fewest[j + 1] + 1;
                        ends[i] = j;
                    }
                }
            }
        }

        private int kindOf(int first, int last) {
            if (first == last) {
                return KIND_SPAN;
            }
            long ints = (long) runs.high(last) - runs.low(first) + 1L;
            if (ints <= MOST_BITS && runs.unlikeTargets(first, last) <= MOST_UNLIKE) {
                return KIND_BITS;
            }
            if (ints <= size && runs.intsIn(first, last) * 100L >= density * ints) {
                return KIND_TABLE;
            }
            return NONE;
        }
    }

    /** The tree of questions over the clusters: where each part of them is split. */
    private static final class Tree {
        private final Clusters clusters;
        // For clusters i .. j at i * MOST_CASES + j; a part of one costs 0 and is never written.
        private final int[] costs = new int[MOST_CASES * MOST_CASES];
        private final int[] splits = new int[MOST_CASES * MOST_CASES];
        private int way = BALANCED;

        Tree(Clusters clusters) {
            this.clusters = clusters;
        }

        void plan(int way) {
            this.way = way;
            if (way != CHEAPEST) {
                return;
            }
            int n = Math.min(clusters.held(), MOST_CASES);
            for (int wide = 2; wide <= n; wide++) {
                for (int i = 0; i + wide <= n; i++) {
                    findCheapest(i, i + wide - 1);
                }
            }
        }

        int split(int i, int j) {
            int place = place(i, j);
            if (way == CHEAPEST && place != NONE) {
                return splits[place];
            }
            return (i + j + 1) / 2;
        }

        int questionsAbove(int c) {
            int i = 0;
            int j = clusters.held() - 1;
            int asked = 0;
            while (i < j && asked < MOST_CASES) {
                int m = split(i, j);
                if (c < m) {
                    j = m - 1;
                } else {
                    i = m;
                }
                asked++;
            }
            return asked;
        }

        private void findCheapest(int i, int j) {
            int least = Integer.MAX_VALUE;
            int best = j;
            int weight = 0;
            for (int m = i; m <= j; m++) {
                weight += clusters.weight(m) + 1;
            }
            for (int m = i + 1; m <= j; m++) {
                int parts = costOf(i, m - 1) + costOf(m, j);
                if (parts < least) {
                    least = parts;
                    best = m;
                }
            }
            int place = place(i, j);
            if (place != NONE) {
                // One question more lies above each cluster of the two parts.
                costs[place] = least + weight;
                splits[place] = best;
            }
        }

        private int costOf(int i, int j) {
            int place = place(i, j);
            return place == NONE ? 0 : costs[place];
        }

        private static int place(int i, int j) {
            boolean known = i >= 0 && i < MOST_CASES && j >= 0 && j < MOST_CASES;
            return known ? i * MOST_CASES + j : NONE;
        }
    }

    /** The lines, laid out from the tree; they can be followed with a number and printed. */
    private static final class Code {
        private final Spans runs;
        private final Clusters clusters;
        private final Tree tree;
        private final int[] kinds = new int[MOST_LINES];
        private final int[] firsts = new int[MOST_LINES];
        private final int[] seconds = new int[MOST_LINES];
        private final long[] rows = new long[MOST_LINES];
        // Where the numbers of a line that is a table begin.
        private final int[] starts = new int[MOST_LINES];
        private final int[] numbers = new int[MOST_NUMBERS];
        private int length = 0;
        private int used = 0;
        private int restTarget = 0;
        private int target = 0;
        private int done = 0;

        Code(Spans runs, Clusters clusters, Tree tree) {
            this.runs = runs;
            this.clusters = clusters;
            this.tree = tree;
        }

        boolean has(int i) {
            return i >= 0 && i < length && i < MOST_LINES;
        }

        int length() {
            return length;
        }

        int numbersInTables() {
            return used;
        }

        /** The target with which the line ended that was done last. */
        int target() {
            return target;
        }

        int linesDone() {
            return done;
        }

        int kind(int i) {
            return has(i) ? kinds[i] : NONE;
        }

        int first(int i) {
            return has(i) ? firsts[i] : 0;
        }

        int second(int i) {
            return has(i) ? seconds[i] : 0;
        }

        long row(int i) {
            return has(i) ? rows[i] : 0L;
        }

        int number(int i, long k) {
            if (!has(i) || kinds[i] != TABLE || k < 0L || k >= seconds[i]) {
                return NONE;
            }
            long place = starts[i] + k;
            return place >= 0L && place < MOST_NUMBERS ? numbers[(int) place] : NONE;
        }

        void layOut(int restTarget) {
            this.restTarget = restTarget;
            length = 0;
            used = 0;
            if (clusters.held() == 0) {
                write(END, restTarget, 0, 0L);
            } else {
                layPart(0, clusters.held() - 1, Integer.MIN_VALUE, Integer.MAX_VALUE, 0);
            }
        }

        /** Ints from least to greatest can come here; the depth is how many questions lie above. */
        private void layPart(int i, int j, int least, int greatest, int depth) {
            if (depth >= MOST_CASES) {
                return;
            }
            if (i >= j) {
                layLeaf(i, least, greatest);
                return;
            }
            int m = tree.split(i, j);
            int bottom = clusters.bottom(m);
            int question = write(LESS, bottom, 0, 0L);
            layPart(m, j, bottom, greatest, depth + 1);
            aim(question, length);
            layPart(i, m - 1, least, bottom - 1, depth + 1);
        }

        private void layLeaf(int c, int least, int greatest) {
            int kind = clusters.kind(c);
            int bottom = clusters.bottom(c);
            int top = clusters.top(c);
            if (kind == KIND_SPAN && bottom == top) {
                write(SAME, bottom, runs.target(clusters.firstRun(c)), 0L);
                write(END, restTarget, 0, 0L);
                return;
            }
            int less = least < bottom ? write(LESS, bottom, 0, 0L) : NONE;
            int more = greatest > top ? write(MORE, top, 0, 0L) : NONE;
            if (kind == KIND_SPAN) {
                write(END, runs.target(clusters.firstRun(c)), 0, 0L);
            } else if (kind == KIND_BITS) {
                layBits(c, bottom);
            } else {
                layTable(c, bottom, top);
            }
            if (kind == KIND_BITS || less != NONE || more != NONE) {
                int end = write(END, restTarget, 0, 0L);
                aim(less, end);
                aim(more, end);
            }
        }

        private void layBits(int c, int bottom) {
            int first = clusters.firstRun(c);
            int last = clusters.lastRun(c);
            int seen = 0;
            for (int r = first; r <= last && r < MOST_CASES; r++) {
                int t = runs.target(r);
                if ((seen & 1 << t) == 0) {
                    seen |= 1 << t;
                    write(BIT, bottom, t, runs.rowOfBits(first, last, t));
                }
            }
        }

        private void layTable(int c, int bottom, int top) {
            int start = used;
            int many = (int) Math.min((long) top - bottom + 1L, MOST_NUMBERS - start);
            int table = write(TABLE, bottom, many, 0L);
            if (has(table)) {
                starts[table] = start;
            }
            used += many;
            fill(start, used - 1, restTarget);
            for (int r = clusters.firstRun(c); r <= clusters.lastRun(c) && r < MOST_CASES; r++) {
                fill(start + (runs.low(r) - bottom), start + (runs.high(r) - bottom), runs.target(r));
            }
        }

        private void fill(int from, int to, int t) {
            for (int k = Math.max(from, 0); k <= to && k < MOST_NUMBERS; k++) {
                numbers[k] = t;
            }
        }

        private int write(int kind, int first, int second, long row) {
            if (length < 0 || length >= MOST_LINES) {
                return NONE;
            }
            kinds[length] = kind;
            firsts[length] = first;
            seconds[length] = second;
            rows[length] = row;
            return length++;
        }

        private void aim(int i, int to) {
            if (has(i)) {
                seconds[i] = to;
            }
        }

        /** Lines go on forwards alone, so no line is done twice. */
        void follow(int x) {
            int i = 0;
            done = 0;
            target = restTarget;
            while (done < MOST_LINES && has(i)) {
                i = doLine(i, x);
                done++;
            }
        }

        /** The next line; NONE at the end. */
        private int doLine(int i, int x) {
            if (!has(i)) {
                return NONE;
            }
            switch (kinds[i]) {
                case LESS:
                    return x < firsts[i] ? seconds[i] : i + 1;
                case MORE:
                    return x > firsts[i] ? seconds[i] : i + 1;
                case SAME:
                    return x == firsts[i] ? endWith(seconds[i]) : i + 1;
                case BIT:
                    return hasBit(i, (long) x - firsts[i]) ? endWith(seconds[i]) : i + 1;
                case TABLE:
                    return endWith(number(i, (long) x - firsts[i]));
                default:
                    return endWith(firsts[i]);
            }
        }

        private boolean hasBit(int i, long k) {
            return k >= 0L && k < MOST_BITS && (row(i) >>> k & 1L) != 0L;
        }

        private int endWith(int t) {
            target = t;
            return NONE;
        }

        void printTo(Text text) {
            for (int i = 0; i < length; i++) {
                printLine(i, text);
            }
        }

        private void printLine(int i, Text text) {
            int kind = kind(i);
            text.number(i);
            text.word(wordOf(kind));
            text.number(first(i));
            if (kind == BIT) {
                text.word(" ");
                text.figures(row(i));
            }
            if (kind != END) {
                text.word(" ");
                text.number(second(i));
            }
            int many = kind == TABLE ? second(i) : 0;
            for (int k = 0; k < many; k++) {
                text.word(" ");
                text.number(number(i, k));
            }
            text.word("\n");
        }

        private static String wordOf(int kind) {
            switch (kind) {
                case LESS:
                    return " LESS ";
                case MORE:
                    return " MORE ";
                case SAME:
                    return " SAME ";
                case BIT:
                    return " BIT ";
                case TABLE:
                    return " TABLE ";
                default:
                    return " END ";
            }
        }
    }

    /** The bytes of the out; the row grows at need, so that a call makes no objects as a rule. */
    private static final class Text {
        private byte[] bytes = new byte[256];
        private int length = 0;

        int length() {
            return length;
        }

        void clear() {
            length = 0;
        }

        int byteAt(int i) {
            return i >= 0 && i < length && i < bytes.length ? bytes[i] : NONE;
        }

        void word(String word) {
            for (int k = 0; k < word.length(); k++) {
                put(word.charAt(k));
            }
        }

        void number(int value) {
            // As a long the least int has an opposite.
            long left = value;
            if (left < 0L) {
                put('-');
                left = -left;
            }
            long power = 1L;
            int places = 1;
            while (places < 10 && left >= power * 10L) {
                power *= 10L;
                places++;
            }
            for (int k = 0; k < places && power > 0L; k++) {
                put((int) ('0' + left / power % 10L));
                power /= 10L;
            }
        }

        /** Sixteen figures, of four bits each. */
        void figures(long row) {
            for (int k = 60; k >= 0; k -= 4) {
                int figure = (int) (row >>> k & 15L);
                put(figure < 10 ? '0' + figure : 'A' + figure - 10);
            }
        }

        private void put(int value) {
            if (length >= bytes.length && bytes.length < MOST_BYTES) {
                bytes = Arrays.copyOf(bytes, bytes.length * 2);
            }
            if (length >= 0 && length < bytes.length) {
                bytes[length] = (byte) value;
                length++;
            }
        }
    }
}
