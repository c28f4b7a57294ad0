import java.util.ArrayList;
import java.util.Arrays;
import java.util.List;
import java.util.Random;

/**
 * The two sentences of the document that ask for the best of all ways: here each way is tried, as the
 * sentences say it, and none is built from the best ways of its parts.
 */
public final class EveryWayTest extends Bounds {
    private static final int OBJECTS = 4000;

    public static void main(String[] args) throws IllegalAccessException {
        runAll(EveryWayTest.class);
    }

    static void everyWayToPart() {
        says("of all ways to part the RUNS, in order, into CLUSTERS those with the fewest; of these those whose"
            + " first one has the most RUNS, then the second one, and so on");
        Random dice = new Random(1);
        int[] seen = new int[3];
        for (int k = 0; k < OBJECTS; k++) {
            ChoiceCode x = new ChoiceCode();
            int density = 1 + dice.nextInt(100), size = 1 + dice.nextInt(256);
            x.tables(density, size);
            addNeighbours(x, dice, 1 + dice.nextInt(9));
            List<int[]> best = bestParting(runsOf(x), density, size);
            due("clusters", x.count(2), best.size());
            for (int c = 0; c < best.size(); c++) {
                int[] due = best.get(c);
                dueCluster(x, c, due[0], due[1], due[2]);
                seen[due[0]]++;
            }
        }
        for (int kind = 0; kind < seen.length; kind++) {
            if (seen[kind] < OBJECTS / 4) {
                fault("only " + seen[kind] + " clusters of kind " + kind);
            }
        }
    }

    /** Cases one behind the other, often with four targets and more within 64 ints or just beyond. */
    private static void addNeighbours(ChoiceCode x, Random dice, int many) {
        int low = dice.nextInt(200) - 100;
        int farthest = 1 + dice.nextInt(60), longest = 1 + dice.nextInt(40), targets = 2 + dice.nextInt(6);
        for (int k = 0; k < many; k++) {
            int high = low + dice.nextInt(longest);
            due("add", x.add(low, high, 1 + dice.nextInt(targets), 0), k);
            low = high + 1 + dice.nextInt(farthest);
        }
    }

    /** Each run as low, high, target. */
    private static List<int[]> runsOf(ChoiceCode x) {
        List<int[]> runs = new ArrayList<>();
        for (int r = 0; r < x.count(1); r++) {
            runs.add(new int[] {x.run(r, 0), x.run(r, 1), x.run(r, 2)});
        }
        return runs;
    }

    /** Each cluster as kind, first run, how many runs. A set bit of a way ends a cluster behind that run. */
    private static List<int[]> bestParting(List<int[]> runs, int density, int size) {
        List<int[]> best = null;
        for (int way = 0; way < 1 << (runs.size() - 1); way++) {
            List<int[]> clusters = new ArrayList<>();
            int first = 0;
            for (int r = 0; r < runs.size(); r++) {
                if (r == runs.size() - 1 || (way >> r & 1) == 1) {
                    clusters.add(new int[] {kindOf(runs.subList(first, r + 1), density, size), first, r + 1 - first});
                    first = r + 1;
                }
            }
            boolean allAreSome = clusters.stream().allMatch(c -> c[0] != NONE);
            if (allAreSome && (best == null || comesAhead(clusters, best))) {
                best = clusters;
            }
        }
        return best;
    }

    private static boolean comesAhead(List<int[]> one, List<int[]> other) {
        if (one.size() != other.size()) {
            return one.size() < other.size();
        }
        for (int c = 0; c < one.size(); c++) {
            if (one.get(c)[2] != other.get(c)[2]) {
                return one.get(c)[2] > other.get(c)[2];
            }
        }
        return false;
    }

    private static int kindOf(List<int[]> row, int density, int size) {
        if (row.size() == 1) {
            return SPAN_KIND;
        }
        int ints = row.get(row.size() - 1)[1] - row.get(0)[0] + 1;
        int inRuns = row.stream().mapToInt(run -> run[1] - run[0] + 1).sum();
        long unlike = row.stream().mapToInt(run -> run[2]).distinct().count();
        if (ints <= 64 && unlike <= 3) {
            return BITS_KIND;
        }
        return ints <= size && inRuns * 100 >= density * ints ? TABLE_KIND : NONE;
    }

    static void everyTree() {
        says("WAY 1 CHEAPEST: the COST of a tree is the sum over its CLUSTERS of WEIGHT and 1, times how many"
            + " questions lie above it; m so that COST is least, of like ones the least m (each part likewise)");
        Random dice = new Random(2);
        for (int k = 0; k < OBJECTS; k++) {
            int n = 1 + dice.nextInt(8);
            int most = new int[] {1, 3, 10, 1001}[dice.nextInt(4)];
            int[] weights = dice.ints(n, 0, most).toArray();
            ChoiceCode x = single(weights);
            x.way(1);
            long least = Long.MAX_VALUE;
            int[] best = null;
            for (int[] tree : trees(0, n - 1)) {
                long cost = costOf(tree, weights);
                if (cost < least || cost == least && Arrays.compare(tree, best) < 0) {
                    least = cost;
                    best = tree;
                }
            }
            due("cost() of " + Arrays.toString(weights), x.cost(), least);
            int[] above = above(best, n);
            for (int c = 0; c < n; c++) {
                due("above " + c + " of " + Arrays.toString(weights), x.cluster(c, 4), above[c]);
            }
        }
    }

    /** Each tree as its questions: the m of the first, those of its first part, those of its second part. */
    private static List<int[]> trees(int i, int j) {
        List<int[]> all = new ArrayList<>();
        if (i == j) {
            all.add(new int[0]);
        }
        for (int m = i + 1; m <= j; m++) {
            for (int[] a : trees(i, m - 1)) {
                for (int[] b : trees(m, j)) {
                    int[] tree = new int[1 + a.length + b.length];
                    tree[0] = m;
                    System.arraycopy(a, 0, tree, 1, a.length);
                    System.arraycopy(b, 0, tree, 1 + a.length, b.length);
                    all.add(tree);
                }
            }
        }
        return all;
    }

    private static long costOf(int[] tree, int[] weights) {
        int[] above = above(tree, weights.length);
        long cost = 0;
        for (int c = 0; c < weights.length; c++) {
            cost += (weights[c] + 1L) * above[c];
        }
        return cost;
    }

    private static int[] above(int[] tree, int n) {
        int[] above = new int[n];
        walk(tree, 0, 0, n - 1, 0, above);
        return above;
    }

    /** Where the questions go on behind this part. */
    private static int walk(int[] tree, int at, int i, int j, int depth, int[] above) {
        if (i == j) {
            above[i] = depth;
            return at;
        }
        int behindFirst = walk(tree, at + 1, i, tree[at] - 1, depth + 1, above);
        return walk(tree, behindFirst, tree[at], j, depth + 1, above);
    }
}
