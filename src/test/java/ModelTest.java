import java.util.ArrayList;
import java.util.HashMap;
import java.util.List;
import java.util.Map;

/** Made-up runs of 512 calls, each answer held against a second, slower writing of the document. */
public final class ModelTest {
    private static final int MIN = Integer.MIN_VALUE, MAX = Integer.MAX_VALUE;
    private static final int NONE = -1, UNKNOWN = -101, OUTSIDE = -102, STATE = -103, FULL = -104;
    private static final int OBJECTS = 2500, STEEP = 150, CALLS = 512;

    private static long seed = 88172645463325252L;

    /** Below n, the same in each run of the test. */
    private static int below(int n) {
        seed ^= seed << 13;
        seed ^= seed >>> 7;
        seed ^= seed << 17;
        return (int) Math.floorMod(seed >>> 11, (long) n);
    }

    private static final class Leaf {
        int kind, first, many, weight, depth;
        long bottom, top;
    }

    private static final class Node {
        Leaf leaf;
        long ask;
        Node below, on;

        long cost(int depth) {
            if (leaf != null) {
                return (leaf.weight + 1L) * depth;
            }
            return below.cost(depth + 1) + on.cost(depth + 1);
        }

        void setDepths(int depth) {
            if (leaf != null) {
                leaf.depth = depth;
            } else {
                below.setDepths(depth + 1);
                on.setDepths(depth + 1);
            }
        }
    }

    /** The document once more: lines are texts here, and these are what is run. */
    private static final class Plain {
        final long[][] cases = new long[24][];
        int restTarget, restWeight, density = 40, size = 64, way, clash = NONE;
        String out = "";
        List<long[]> runs;
        List<Leaf> clusters;
        Node tree;
        List<String> lines;
        boolean fresh;

        void workOut() {
            if (fresh) {
                return;
            }
            runs = findRuns();
            clusters = part(0, new HashMap<>());
            tree = clusters.isEmpty() ? null : plant(0, clusters.size() - 1, new HashMap<>());
            if (tree != null) {
                tree.setDepths(0);
            }
            lines = new ArrayList<>();
            lay(tree, MIN, MAX);
            fresh = true;
        }

        List<long[]> findRuns() {
            List<long[]> found = new ArrayList<>();
            for (long[] c : cases) {
                if (c != null && c[2] != restTarget) {
                    found.add(c.clone());
                }
            }
            found.sort((a, b) -> Long.compare(a[0], b[0]));
            for (int k = 0; k + 1 < found.size();) {
                long[] a = found.get(k), b = found.get(k + 1);
                if (a[1] + 1 == b[0] && a[2] == b[2]) {
                    a[1] = b[1];
                    a[3] += b[3];
                    found.remove(k + 1);
                } else {
                    k++;
                }
            }
            return found;
        }

        List<Leaf> part(int from, Map<Integer, List<Leaf>> known) {
            if (from == runs.size()) {
                return new ArrayList<>();
            }
            if (known.containsKey(from)) {
                return known.get(from);
            }
            List<Leaf> best = null;
            for (int to = from; to < runs.size(); to++) {
                Leaf leaf = leafOf(from, to);
                if (leaf != null) {
                    List<Leaf> all = new ArrayList<>();
                    all.add(leaf);
                    all.addAll(part(to + 1, known));
                    if (best == null || better(all, best)) {
                        best = all;
                    }
                }
            }
            known.put(from, best);
            return best;
        }

        static boolean better(List<Leaf> a, List<Leaf> b) {
            if (a.size() != b.size()) {
                return a.size() < b.size();
            }
            for (int k = 0; k < a.size(); k++) {
                if (a.get(k).many != b.get(k).many) {
                    return a.get(k).many > b.get(k).many;
                }
            }
            return false;
        }

        Leaf leafOf(int from, int to) {
            Leaf leaf = new Leaf();
            leaf.first = from;
            leaf.many = to - from + 1;
            leaf.bottom = runs.get(from)[0];
            leaf.top = runs.get(to)[1];
            List<Long> unlike = new ArrayList<>();
            long held = 0;
            for (int r = from; r <= to; r++) {
                long[] run = runs.get(r);
                leaf.weight += (int) run[3];
                held += run[1] - run[0] + 1;
                if (!unlike.contains(run[2])) {
                    unlike.add(run[2]);
                }
            }
            long ints = leaf.top - leaf.bottom + 1;
            if (from == to) {
                leaf.kind = 0;
            } else if (ints <= 64 && unlike.size() <= 3) {
                leaf.kind = 1;
            } else if (ints <= size && held * 100 >= ints * density) {
                leaf.kind = 2;
            } else {
                return null;
            }
            return leaf;
        }

        Node plant(int i, int j, Map<Integer, Node> known) {
            Node node = known.get(i * 100 + j);
            if (node != null) {
                return node;
            }
            if (i == j) {
                node = new Node();
                node.leaf = clusters.get(i);
            } else if (way == 0) {
                node = ask(i, j, (i + j + 1) / 2, known);
            } else {
                for (int m = i + 1; m <= j; m++) {
                    Node other = ask(i, j, m, known);
                    if (node == null || other.cost(0) < node.cost(0)) {
                        node = other;
                    }
                }
            }
            known.put(i * 100 + j, node);
            return node;
        }

        Node ask(int i, int j, int m, Map<Integer, Node> known) {
            Node node = new Node();
            node.ask = clusters.get(m).bottom;
            node.below = plant(i, m - 1, known);
            node.on = plant(m, j, known);
            return node;
        }

        void lay(Node node, long least, long greatest) {
            if (node == null) {
                lines.add("END " + restTarget);
            } else if (node.leaf == null) {
                int at = lines.size();
                lines.add("");
                lay(node.on, node.ask, greatest);
                lines.set(at, "LESS " + node.ask + " " + lines.size());
                lay(node.below, least, node.ask - 1);
            } else {
                layLeaf(node.leaf, least, greatest);
            }
        }

        void layLeaf(Leaf leaf, long least, long greatest) {
            String end = "END " + restTarget;
            long target = runs.get(leaf.first)[2];
            if (leaf.kind == 0 && leaf.bottom == leaf.top) {
                lines.add("SAME " + leaf.bottom + " " + target);
                lines.add(end);
                return;
            }
            List<String> inside = new ArrayList<>();
            if (leaf.kind == 0) {
                inside.add("END " + target);
            } else if (leaf.kind == 1) {
                inside = bitLines(leaf);
            } else {
                inside.add(tableLine(leaf));
            }
            int guards = (least < leaf.bottom ? 1 : 0) + (greatest > leaf.top ? 1 : 0);
            int label = lines.size() + guards + inside.size();
            if (least < leaf.bottom) {
                lines.add("LESS " + leaf.bottom + " " + label);
            }
            if (greatest > leaf.top) {
                lines.add("MORE " + leaf.top + " " + label);
            }
            lines.addAll(inside);
            if (leaf.kind == 1 || guards > 0) {
                lines.add(end);
            }
        }

        List<String> bitLines(Leaf leaf) {
            List<Integer> order = new ArrayList<>();
            List<Long> rows = new ArrayList<>();
            for (long v = leaf.bottom; v <= leaf.top; v++) {
                int t = byRuns(v);
                if (t == NONE) {
                    continue;
                }
                if (!order.contains(t)) {
                    order.add(t);
                    rows.add(0L);
                }
                int k = order.indexOf(t);
                rows.set(k, rows.get(k) | 1L << (v - leaf.bottom));
            }
            List<String> made = new ArrayList<>();
            for (int k = 0; k < order.size(); k++) {
                made.add(String.format("BIT %d %016X %d", leaf.bottom, rows.get(k), order.get(k)));
            }
            return made;
        }

        String tableLine(Leaf leaf) {
            StringBuilder made = new StringBuilder("TABLE " + leaf.bottom + " " + (leaf.top - leaf.bottom + 1));
            for (long v = leaf.bottom; v <= leaf.top; v++) {
                int t = byRuns(v);
                made.append(' ').append(t == NONE ? restTarget : t);
            }
            return made.toString();
        }

        int byRuns(long v) {
            for (long[] run : runs) {
                if (run[0] <= v && v <= run[1]) {
                    return (int) run[2];
                }
            }
            return NONE;
        }

        int caseOf(long low, long high) {
            for (int c = 0; c < 24; c++) {
                if (cases[c] != null && cases[c][0] <= high && cases[c][1] >= low) {
                    return c;
                }
            }
            return NONE;
        }

        int held() {
            int n = 0;
            for (long[] c : cases) {
                n += c == null ? 0 : 1;
            }
            return n;
        }

        /** What x ends with, and by how many lines. */
        int[] follow(int x) {
            workOut();
            int i = 0;
            for (int done = 1;; done++) {
                String[] w = lines.get(i).split(" ");
                long b = Long.parseLong(w[1]);
                int next = i + 1;
                switch (w[0]) {
                    case "END":
                        return new int[] {(int) b, done};
                    case "LESS":
                        next = x < b ? Integer.parseInt(w[2]) : next;
                        break;
                    case "MORE":
                        next = x > b ? Integer.parseInt(w[2]) : next;
                        break;
                    case "SAME":
                        if (x == b) {
                            return new int[] {Integer.parseInt(w[2]), done};
                        }
                        break;
                    case "BIT":
                        if ((Long.parseUnsignedLong(w[2], 16) >>> (x - b) & 1) == 1) {
                            return new int[] {Integer.parseInt(w[3]), done};
                        }
                        break;
                    default:
                        return new int[] {Integer.parseInt(w[(int) (3 + x - b)]), done};
                }
                i = next;
            }
        }

        int add(int low, int high, int target, int weight) {
            if (low > high || target < 0 || target > 15 || weight < 0 || weight > 1000) {
                return OUTSIDE;
            }
            int met = caseOf(low, high);
            if (met != NONE) {
                clash = met;
                return STATE;
            }
            for (int c = 0; c < 24; c++) {
                if (cases[c] == null) {
                    cases[c] = new long[] {low, high, target, weight};
                    fresh = false;
                    return c;
                }
            }
            return FULL;
        }

        int drop(int c) {
            if (c < 0 || c > 23 || cases[c] == null) {
                return UNKNOWN;
            }
            cases[c] = null;
            fresh = false;
            return held();
        }

        int rest(int target, int weight) {
            if (target < 0 || target > 15 || weight < 0 || weight > 1000) {
                return OUTSIDE;
            }
            int before = restTarget;
            restTarget = target;
            restWeight = weight;
            fresh = false;
            return before;
        }

        int tables(int newDensity, int newSize) {
            if (newDensity < 1 || newDensity > 100 || newSize < 1 || newSize > 256) {
                return OUTSIDE;
            }
            int before = density;
            density = newDensity;
            size = newSize;
            fresh = false;
            return before;
        }

        int way(int newWay) {
            if (newWay != 0 && newWay != 1) {
                return OUTSIDE;
            }
            int before = way;
            way = newWay;
            fresh = false;
            return before;
        }

        int told(int c, int what) {
            if (c < 0 || c > 23 || cases[c] == null) {
                return UNKNOWN;
            }
            return what < 0 || what > 3 ? OUTSIDE : (int) cases[c][what];
        }

        int count(int what) {
            workOut();
            int[] counts = {held(), runs.size(), clusters.size(), Math.max(0, clusters.size() - 1), lines.size(),
                numbers(), out.length(), 0};
            if (what == 7) {
                return mostSteps();
            }
            return what < 0 || what > 7 ? OUTSIDE : counts[what];
        }

        int numbers() {
            int sum = 0;
            for (String line : lines) {
                sum += line.startsWith("TABLE") ? Integer.parseInt(line.split(" ")[2]) : 0;
            }
            return sum;
        }

        /** Every int at which a line could decide otherwise, and both beside it. */
        int mostSteps() {
            List<Long> xs = new ArrayList<>();
            xs.add((long) MIN);
            xs.add((long) MAX);
            for (long[] run : runs) {
                for (long d = -1; d <= 1; d++) {
                    xs.add(run[0] + d);
                    xs.add(run[1] + d);
                }
            }
            int most = 0;
            for (long x : xs) {
                if (x >= MIN && x <= MAX) {
                    most = Math.max(most, follow((int) x)[1]);
                }
            }
            return most;
        }

        int run(int r, int what) {
            workOut();
            if (r < 0 || r >= runs.size()) {
                return UNKNOWN;
            }
            return what < 0 || what > 3 ? OUTSIDE : (int) runs.get(r)[what];
        }

        int cluster(int c, int what) {
            workOut();
            if (c < 0 || c >= clusters.size()) {
                return UNKNOWN;
            }
            Leaf leaf = clusters.get(c);
            int[] all = {leaf.kind, leaf.first, leaf.many, leaf.weight, leaf.depth};
            return what < 0 || what > 4 ? OUTSIDE : all[what];
        }

        int cost() {
            workOut();
            return tree == null ? 0 : (int) tree.cost(0);
        }

        int line(int i, int what) {
            workOut();
            if (i < 0 || i >= lines.size()) {
                return UNKNOWN;
            }
            if (what < 0 || what > 2) {
                return OUTSIDE;
            }
            String[] w = lines.get(i).split(" ");
            if (what == 0) {
                return List.of("LESS", "MORE", "SAME", "END", "BIT", "TABLE").indexOf(w[0]);
            }
            if (what == 1) {
                return Integer.parseInt(w[1]);
            }
            return w[0].equals("END") ? 0 : Integer.parseInt(w[w[0].equals("BIT") ? 3 : 2]);
        }

        long bits(int i) {
            workOut();
            if (i < 0 || i >= lines.size()) {
                return UNKNOWN;
            }
            String[] w = lines.get(i).split(" ");
            return w[0].equals("BIT") ? Long.parseUnsignedLong(w[2], 16) : 0;
        }

        int entry(int i, int k) {
            workOut();
            if (i < 0 || i >= lines.size()) {
                return UNKNOWN;
            }
            String[] w = lines.get(i).split(" ");
            return w[0].equals("TABLE") && k >= 0 && k < w.length - 3 ? Integer.parseInt(w[3 + k]) : NONE;
        }

        long spent() {
            workOut();
            long sum = 0;
            List<long[]> all = new ArrayList<>();
            for (long[] c : cases) {
                if (c != null) {
                    sum += c[3] * follow((int) c[0])[1];
                    all.add(c);
                }
            }
            all.sort((a, b) -> Long.compare(a[0], b[0]));
            long free = MIN;
            for (long[] c : all) {
                free = c[0] == free ? c[1] + 1 : free;
            }
            return free > MAX ? sum : sum + (long) restWeight * follow((int) free)[1];
        }

        int print() {
            workOut();
            StringBuilder made = new StringBuilder();
            for (int i = 0; i < lines.size(); i++) {
                made.append(i).append(' ').append(lines.get(i)).append('\n');
            }
            out = made.toString();
            return out.length();
        }

        int out(int i) {
            return i < 0 || i >= out.length() ? NONE : out.charAt(i);
        }
    }

    /** Where the cases of one object lie: how far apart, how long, how many targets. */
    private static final class Field {
        final long base;
        final int room, longest, farthest, targets;
        long next;

        Field() {
            long[] bases = {0, -30, MIN, MAX - 700L, MIN + 1L, -1000, 1000000};
            int[] rooms = {60, 200, 700, 3000};
            int[] lengths = {1, 3, 20, 120};
            int[] many = {2, 3, 5, 16};
            base = bases[below(bases.length)];
            room = rooms[below(rooms.length)];
            longest = lengths[below(lengths.length)];
            farthest = rooms[below(rooms.length)];
            targets = many[below(many.length)];
            next = base;
        }

        int number() {
            int odd = below(40);
            if (odd == 0) {
                return MIN + below(3);
            }
            if (odd == 1) {
                return MAX - below(3);
            }
            return (int) Math.max(MIN, Math.min(MAX, base + below(room)));
        }

        int target() {
            return below(60) == 0 ? below(20) - 2 : below(targets);
        }

        int weight() {
            int[] kinds = {below(3), below(30), below(1001), below(1005) - 2};
            return kinds[below(4)];
        }
    }

    private static String said(String name, int... of) {
        StringBuilder made = new StringBuilder(name).append('(');
        for (int k = 0; k < of.length; k++) {
            made.append(k == 0 ? "" : ", ").append(of[k]);
        }
        return made.append(')').toString();
    }

    /** The calls on the object of now, with their answers. */
    private static final List<String> trail = new ArrayList<>();

    private static void due(String call, long got, long want) {
        trail.add(call + " = " + got);
        if (got != want) {
            for (String row : trail) {
                System.out.println(row);
            }
            System.out.println("due is " + want);
            System.exit(1);
        }
    }

    private static void add(ChoiceCode x, Plain p, Field f) {
        int low, high;
        if (below(3) > 0) {
            // Behind the last one, so that rows become long; often right behind.
            int[] gaps = {4, 70, f.farthest};
            long gap = below(2) == 0 ? 0 : below(gaps[below(3)]);
            low = (int) Math.min(MAX, f.next + gap);
            high = (int) Math.min(MAX, (long) low + below(f.longest));
            f.next = Math.min(MAX, high + 1L);
        } else {
            low = f.number();
            high = (int) Math.max(MIN, Math.min(MAX, (long) low + below(f.longest + 1) - (below(20) == 0 ? 1 : 0)));
            if (below(60) == 0) {
                high = MAX;
            }
        }
        int t = f.target(), w = f.weight();
        due(said("add", low, high, t, w), x.add(low, high, t, w), p.add(low, high, t, w));
    }

    private static void change(ChoiceCode x, Plain p, Field f) {
        int kind = below(20), a, b;
        switch (kind) {
            case 0:
            case 1:
                a = below(26) - 1;
                due(said("drop", a), x.drop(a), p.drop(a));
                f.next = below(3) == 0 ? f.base : f.next;
                break;
            case 2:
                a = f.target();
                b = f.weight();
                due(said("rest", a, b), x.rest(a, b), p.rest(a, b));
                break;
            case 3:
                a = below(3) == 0 ? below(104) - 1 : 1 + below(60);
                b = below(3) == 0 ? below(260) - 1 : 200 + below(57);
                due(said("tables", a, b), x.tables(a, b), p.tables(a, b));
                break;
            case 4:
                a = below(10) == 0 ? below(4) - 1 : below(2);
                due(said("way", a), x.way(a), p.way(a));
                break;
            default:
                add(x, p, f);
        }
    }

    private static void ask(ChoiceCode x, Plain p, Field f) {
        int a, b;
        switch (below(17)) {
            case 0:
                due("clash()", x.clash(), p.clash);
                break;
            case 1:
                a = below(27) - 1;
                b = below(6) - 1;
                due(said("told", a, b), x.told(a, b), p.told(a, b));
                break;
            case 2:
            case 3:
                a = below(10) - 1;
                due(said("count", a), x.count(a), p.count(a));
                break;
            case 4:
                a = below(p.count(1) + 2) - 1;
                b = below(6) - 1;
                due(said("run", a, b), x.run(a, b), p.run(a, b));
                break;
            case 5:
            case 6:
                a = below(p.count(2) + 2) - 1;
                b = below(7) - 1;
                due(said("cluster", a, b), x.cluster(a, b), p.cluster(a, b));
                break;
            case 7:
                due("cost()", x.cost(), p.cost());
                break;
            case 8:
            case 9:
                a = below(p.count(4) + 2) - 1;
                b = below(5) - 1;
                due(said("line", a, b), x.line(a, b), p.line(a, b));
                break;
            case 10:
                a = below(p.count(4) + 2) - 1;
                due(said("bits", a), x.bits(a), p.bits(a));
                break;
            case 11:
                a = below(p.count(4) + 2) - 1;
                b = below(90) - 2;
                due(said("entry", a, b), x.entry(a, b), p.entry(a, b));
                break;
            case 12:
                a = f.number();
                due(said("go", a), x.go(a), p.follow(a)[0]);
                due(said("by", a), x.by(a), p.follow(a)[0]);
                break;
            case 13:
                a = f.number();
                due(said("steps", a), x.steps(a), p.follow(a)[1]);
                break;
            case 14:
                due("spent()", x.spent(), p.spent());
                break;
            case 15:
                due("print()", x.print(), p.print());
                break;
            default:
                a = below(p.out.length() + 2) - 1;
                due(said("out", a), x.out(a), p.out(a));
        }
    }

    /** Single clusters with weights that grow by a share each: deep trees, with like costs among them. */
    private static void steep(ChoiceCode x, Plain p) {
        double share = 1.2 + below(9) / 10.0, weight = 1;
        boolean falls = below(2) == 0;
        int n = 10 + below(15);
        int[] weights = new int[n];
        for (int k = 0; k < n; k++) {
            weights[falls ? n - 1 - k : k] = (int) Math.min(1000, weight) - below(2) * below(2);
            weight *= share;
        }
        for (int k = 0; k < n; k++) {
            int low = k * 1000, high = low + below(2), t = 1 + below(15);
            due(said("add", low, high, t, weights[k]), x.add(low, high, t, weights[k]), p.add(low, high, t, weights[k]));
        }
        due("way(1)", x.way(1), p.way(1));
        for (int c = 0; c < n; c++) {
            due(said("cluster", c, 4), x.cluster(c, 4), p.cluster(c, 4));
        }
        for (int i = 0; i < p.lines.size(); i++) {
            for (int what = 0; what < 3; what++) {
                due(said("line", i, what), x.line(i, what), p.line(i, what));
            }
        }
        due("cost()", x.cost(), p.cost());
        due("count(7)", x.count(7), p.count(7));
    }

    /** As much of the out as the calls that are left allow, from any place on. */
    private static void read(ChoiceCode x, Plain p) {
        due("print()", x.print(), p.print());
        int from = below(p.out.length());
        for (int i = from; trail.size() < CALLS; i++) {
            due(said("out", i), x.out(i), p.out(i));
        }
    }

    public static void main(String[] args) {
        for (int k = 0; k < OBJECTS; k++) {
            trail.clear();
            ChoiceCode x = new ChoiceCode();
            Plain p = new Plain();
            Field f = new Field();
            int begun = 10 + below(50);
            while (trail.size() < CALLS - 60) {
                if (trail.size() < begun || below(8) == 0) {
                    change(x, p, f);
                } else {
                    ask(x, p, f);
                }
            }
            read(x, p);
        }
        for (int k = 0; k < STEEP; k++) {
            trail.clear();
            steep(new ChoiceCode(), new Plain());
        }
        System.out.println(OBJECTS + " objects answer as the model does");
    }
}
