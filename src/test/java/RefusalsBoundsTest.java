import java.util.ArrayList;
import java.util.Arrays;
import java.util.List;

/** Each refusal that the document names, which of two comes first, and that nothing changes then. */
public final class RefusalsBoundsTest extends Bounds {
    public static void main(String[] args) throws IllegalAccessException {
        runAll(RefusalsBoundsTest.class);
    }

    // ---- the refusals, and that nothing changes

    private interface Call {
        long on(ChoiceCode x);
    }

    private static final int SCENE_CALLS = 30;

    private static long[] allAnswers(ChoiceCode x) {
        List<Long> all = new ArrayList<>();
        all.add((long) x.clash());
        for (int c = 0; c < 24; c++) {
            for (int what = 0; what < 4; what++) {
                all.add((long) x.told(c, what));
            }
        }
        for (int what = 0; what < 8; what++) {
            all.add((long) x.count(what));
        }
        for (int r = 0; r < 16; r++) {
            for (int what = 0; what < 4; what++) {
                all.add((long) x.run(r, what));
            }
        }
        for (int c = 0; c < 8; c++) {
            for (int what = 0; what < 5; what++) {
                all.add((long) x.cluster(c, what));
            }
        }
        addLines(x, all);
        for (int number : new int[] {MIN, -1, 0, 3, 119, 1000, 5008, 9000}) {
            all.add((long) x.go(number));
            all.add((long) x.steps(number));
            all.add((long) x.by(number));
        }
        all.add((long) x.cost());
        all.add(x.spent());
        for (int i = 0; i < 40; i++) {
            all.add((long) x.out(i));
        }
        all.add((long) x.tables(1, 1));
        all.add((long) x.way(0));
        all.add((long) x.rest(0, 0));
        long[] row = new long[all.size()];
        for (int k = 0; k < row.length; k++) {
            row[k] = all.get(k);
        }
        if (row.length > CALLS - SCENE_CALLS - 1) {
            fault("the scene takes " + row.length + " calls");
        }
        return row;
    }

    private static void addLines(ChoiceCode x, List<Long> all) {
        for (int i = 0; i < 37; i++) {
            for (int what = 0; what < 3; what++) {
                all.add((long) x.line(i, what));
            }
            all.add(x.bits(i));
        }
        for (int k = 0; k < 20; k++) {
            all.add((long) x.entry(35, k));
        }
    }

    private static void refused(String call, long want, Call asked) {
        ChoiceCode x = scene();
        due(call, asked.on(x), want);
        if (!Arrays.equals(allAnswers(x), allAnswers(scene()))) {
            fault(call + " changed something");
        }
    }

    static void theSceneIsAsItShouldBe() {
        says("then nothing changes: what the tests of it look at");
        ChoiceCode x = scene();
        int[] counts = {24, 16, 8, 7, 37, 20, 38};
        for (int what = 0; what < counts.length; what++) {
            due("count(" + what + ")", x.count(what), counts[what]);
        }
        due("clash()", x.clash(), 12);
        due("line 35", x.line(35, 0), TABLE);
        due("the heavy one, cheapest", x.cluster(5, 4), 2);
        x.way(0);
        due("the heavy one, balanced", x.cluster(5, 4), 3);
        x.tables(40, 21);
        due("SIZE 21", x.count(2), 7);
        x.tables(40, 19);
        due("SIZE 19", x.count(2), 9);
        x.tables(41, 20);
        due("DENSITY 41", x.count(2), 9);
        x.tables(35, 20);
        due("DENSITY 35", x.count(2), 7);
    }

    static void refusalsOfAdd() {
        says("add: OUTSIDE (low above high; TARGET, WEIGHT); STATE; FULL; then nothing changes");
        refused("add(9001, 9000, 1, 1)", OUTSIDE, x -> x.add(9001, 9000, 1, 1));
        refused("add(MAX, MIN, 1, 1)", OUTSIDE, x -> x.add(MAX, MIN, 1, 1));
        refused("add(2000000000, -2000000000, 1, 1)", OUTSIDE, x -> x.add(2000000000, -2000000000, 1, 1));
        refused("add(9000, 9000, -1, 1)", OUTSIDE, x -> x.add(9000, 9000, -1, 1));
        refused("add(9000, 9000, 16, 1)", OUTSIDE, x -> x.add(9000, 9000, 16, 1));
        refused("add(9000, 9000, 1, -1)", OUTSIDE, x -> x.add(9000, 9000, 1, -1));
        refused("add(9000, 9000, 1, 1001)", OUTSIDE, x -> x.add(9000, 9000, 1, 1001));
        // The latest STATE of the scene was by case 12, too: what clash() tells is as it was.
        refused("add(1000, 1000, 1, 1)", STATE, x -> x.add(1000, 1000, 1, 1));
        refused("add(9000, 9000, 1, 1)", FULL, x -> x.add(9000, 9000, 1, 1));
    }

    static void lowAboveHigh() {
        says("add: OUTSIDE (low above high ..)");
        int[][] refused = {{1, 0}, {0, -1}, {MAX, MIN}, {MIN + 1, MIN}, {MAX, MAX - 1}, {2000000000, -2000000000}};
        for (int[] span : refused) {
            due("add" + Arrays.toString(span), new ChoiceCode().add(span[0], span[1], 1, 1), OUTSIDE);
        }
        int[][] taken = {{0, 0}, {0, 1}, {-1, 0}, {MIN, MAX}, {MIN, MIN}, {MAX, MAX}, {-2000000000, 2000000000}};
        for (int[] span : taken) {
            due("add" + Arrays.toString(span), new ChoiceCode().add(span[0], span[1], 1, 1), 0);
        }
    }

    static void outsideComesAheadOfState() {
        says("Calls answer, the first of these that fits: .. OUTSIDE .. STATE: add");
        ChoiceCode x = with(0, 9, 1, 1);
        due("low above high", x.add(5, 4, 1, 1), OUTSIDE);
        due("target", x.add(5, 5, 16, 1), OUTSIDE);
        due("weight", x.add(5, 5, 1, 1001), OUTSIDE);
        due("clash()", x.clash(), NONE);
    }

    static void outsideComesAheadOfFull() {
        says("Calls answer, the first of these that fits: .. OUTSIDE .. FULL: add");
        ChoiceCode x = withAll24();
        due("low above high", x.add(9001, 9000, 1, 1), OUTSIDE);
        due("target", x.add(9000, 9000, -1, 1), OUTSIDE);
        due("weight", x.add(9000, 9000, 1, -1), OUTSIDE);
    }

    static void stateComesAheadOfFull() {
        says("Calls answer, the first of these that fits: .. STATE .. FULL: add");
        ChoiceCode x = withAll24();
        due("an int in common", x.add(2300, 9000, 1, 1), STATE);
        due("clash()", x.clash(), 23);
        due("none in common", x.add(2301, 9000, 1, 1), FULL);
        due("clash() of then", x.clash(), 23);
    }

    static void refusalsOfDrop() {
        says("drop: UNKNOWN; then nothing changes");
        refused("drop(-1)", UNKNOWN, x -> x.drop(-1));
        refused("drop(24)", UNKNOWN, x -> x.drop(24));
        refused("drop(MIN)", UNKNOWN, x -> x.drop(MIN));
        refused("drop(MAX)", UNKNOWN, x -> x.drop(MAX));
    }

    static void refusalsOfRest() {
        says("rest: OUTSIDE; then nothing changes");
        refused("rest(-1, 8)", OUTSIDE, x -> x.rest(-1, 8));
        refused("rest(16, 8)", OUTSIDE, x -> x.rest(16, 8));
        refused("rest(10, -1)", OUTSIDE, x -> x.rest(10, -1));
        refused("rest(10, 1001)", OUTSIDE, x -> x.rest(10, 1001));
        refused("rest(MIN, MIN)", OUTSIDE, x -> x.rest(MIN, MIN));
        refused("rest(MAX, MAX)", OUTSIDE, x -> x.rest(MAX, MAX));
    }

    static void refusalsOfTables() {
        says("tables: OUTSIDE; then nothing changes");
        refused("tables(0, 19)", OUTSIDE, x -> x.tables(0, 19));
        refused("tables(0, 21)", OUTSIDE, x -> x.tables(0, 21));
        refused("tables(101, 19)", OUTSIDE, x -> x.tables(101, 19));
        refused("tables(101, 21)", OUTSIDE, x -> x.tables(101, 21));
        refused("tables(35, 0)", OUTSIDE, x -> x.tables(35, 0));
        refused("tables(41, 0)", OUTSIDE, x -> x.tables(41, 0));
        refused("tables(35, 257)", OUTSIDE, x -> x.tables(35, 257));
        refused("tables(41, 257)", OUTSIDE, x -> x.tables(41, 257));
    }

    static void refusalsOfWay() {
        says("way: OUTSIDE; then nothing changes");
        refused("way(-1)", OUTSIDE, x -> x.way(-1));
        refused("way(2)", OUTSIDE, x -> x.way(2));
        refused("way(MIN)", OUTSIDE, x -> x.way(MIN));
        refused("way(MAX)", OUTSIDE, x -> x.way(MAX));
    }

    static void refusalsOfWhatIsAsked() {
        says("told, run, cluster, line: UNKNOWN, OUTSIDE; count: OUTSIDE; bits, entry: UNKNOWN; then nothing changes");
        refused("told(24, 0)", UNKNOWN, x -> x.told(24, 0));
        refused("told(0, 4)", OUTSIDE, x -> x.told(0, 4));
        refused("count(8)", OUTSIDE, x -> x.count(8));
        refused("run(16, 0)", UNKNOWN, x -> x.run(16, 0));
        refused("run(0, 4)", OUTSIDE, x -> x.run(0, 4));
        refused("cluster(8, 0)", UNKNOWN, x -> x.cluster(8, 0));
        refused("cluster(0, 5)", OUTSIDE, x -> x.cluster(0, 5));
        refused("line(37, 0)", UNKNOWN, x -> x.line(37, 0));
        refused("line(0, 3)", OUTSIDE, x -> x.line(0, 3));
        refused("bits(37)", UNKNOWN, x -> x.bits(37));
        refused("entry(37, 0)", UNKNOWN, x -> x.entry(37, 0));
        refused("entry(35, 20)", NONE, x -> x.entry(35, 20));
        refused("out(38)", NONE, x -> x.out(38));
    }

    static void unknownComesAheadOfOutside() {
        says("Calls answer, the first of these that fits: UNKNOWN .. OUTSIDE: told, run, cluster, line");
        ChoiceCode x = with(0, 9, 1, 1);
        for (int no : new int[] {-1, 24, MIN, MAX}) {
            for (int what : new int[] {-1, 4, 5, MIN, MAX}) {
                due("told(" + no + ", " + what + ")", x.told(no, what), UNKNOWN);
                due("run(" + no + ", " + what + ")", x.run(no, what), UNKNOWN);
                due("cluster(" + no + ", " + what + ")", x.cluster(no, what), UNKNOWN);
                due("line(" + no + ", " + what + ")", x.line(no, what), UNKNOWN);
                due("entry(" + no + ", " + what + ")", x.entry(no, what), UNKNOWN);
            }
        }
    }

    static void allIsWorkedOutAnew() {
        says("All is worked out anew from what was told, whenever it is asked.");
        ChoiceCode x = with(0, 0, 1, 2, 1, 1, 2, 3);
        due("at first", x.count(4), 5);
        x.add(3, 3, 3, 4);
        due("behind add", x.count(4), 6);
        due("bits behind add", x.bits(4), 8);
        x.rest(3, 0);
        due("behind rest", x.count(4), 5);
        due("its END", x.line(4, 1), 3);
        x.add(2, 2, 4, 0);
        x.add(4, 4, 5, 0);
        due("behind both", x.count(5), 5);
        x.tables(100, 64);
        due("behind tables", x.count(5), 0);
        x.tables(1, 64);
        due("behind tables again", x.count(5), 5);
        x.drop(4);
        due("behind drop", x.count(5), 0);
        ChoiceCode y = single(1000, 0, 0, 0);
        due("balanced", y.steps(0), 3);
        y.way(1);
        due("behind way", y.steps(0), 2);
        y.way(0);
        due("behind way again", y.steps(0), 3);
    }

    static void aWeightAsksForAnotherTree() {
        says("All is worked out anew from what was told: a WEIGHT that another CASE brings");
        ChoiceCode x = single(0, 0, 0, 0);
        x.way(1);
        due("at first", x.line(0, 1), 2000);
        x.drop(3);
        due("add", x.add(3000, 3000, 4, 1000), 3);
        due("with a heavy one", x.line(0, 1), 3000);
        due("cost()", x.cost(), 1001 + 2 + 3 + 3);
    }
}
