import java.util.Arrays;

/** A test for each sentence of the promises 1 to 21 that names a boundary. */
public final class PromisesBoundsTest extends Bounds {
    public static void main(String[] args) throws IllegalAccessException {
        runAll(PromisesBoundsTest.class);
    }

    // ---- promises 1 to 8

    static void aNewObjectHasNoCases() {
        says("ChoiceCode(): No CASES; THE OUT is empty.");
        ChoiceCode x = new ChoiceCode();
        int[] counts = {0, 0, 0, 0, 1, 0, 0, 1};
        for (int what = 0; what < counts.length; what++) {
            due("count(" + what + ")", x.count(what), counts[what]);
        }
        for (int c = 0; c < 24; c++) {
            due("told(" + c + ", 0)", x.told(c, 0), UNKNOWN);
        }
        due("out(0)", x.out(0), NONE);
        due("clash()", x.clash(), NONE);
        due("DENSITY", x.tables(1, 1), 40);
        due("WAY", x.way(1), 0);
        due("the rest's TARGET", x.rest(1, 1), 0);
    }

    static void theLeastNumberThatIsFree() {
        says("A CASE: its number, the least that is free.");
        ChoiceCode x = withAll24();
        for (int c : new int[] {23, 0, 11, 5}) {
            x.drop(c);
        }
        int[] free = {0, 5, 11, 23};
        for (int k = 0; k < free.length; k++) {
            due("add " + k, x.add(5000 + k, 5000 + k, 1, 1), free[k]);
        }
        due("no more", x.add(9000, 9000, 1, 1), FULL);
    }

    static void fullAndFreeAgain() {
        says("add: FULL; drop: how many are left");
        ChoiceCode x = withAll24();
        due("full", x.add(9000, 9000, 1, 1), FULL);
        due("drop(7)", x.drop(7), 23);
        due("told(7, 0)", x.told(7, 0), UNKNOWN);
        due("one fits", x.add(9000, 9000, 1, 1), 7);
        due("full again", x.add(9001, 9001, 1, 1), FULL);
        due("count(0)", x.count(0), 24);
    }

    static void clashIsNoneBeforeOne() {
        says("clash: NONE before one.");
        ChoiceCode x = withAll24();
        due("no add was refused", x.clash(), NONE);
        x.add(9000, 9000, 1, 1);
        due("one was FULL", x.clash(), NONE);
        x.add(0, 0, 16, 1);
        due("one was OUTSIDE", x.clash(), NONE);
        x.add(0, 0, 1, 1);
        due("one was STATE by case 0", x.clash(), 0);
    }

    static void clashIsTheLeastCase() {
        says("The least CASE with which the latest add() that was STATE had an int in common");
        ChoiceCode x = with(50, 59, 1, 1, 30, 39, 1, 1, 10, 19, 1, 1);
        due("all three", x.add(MIN, MAX, 1, 1), STATE);
        due("the least number, not the least low", x.clash(), 0);
        due("two", x.add(19, 30, 1, 1), STATE);
        due("the least of two", x.clash(), 1);
        due("one", x.add(19, 29, 1, 1), STATE);
        due("the last", x.clash(), 2);
    }

    static void clashIsOfTheLatestState() {
        says("clash: of the latest add() that was STATE, whatever was called since");
        ChoiceCode x = with(0, 0, 1, 1, 10, 10, 2, 1);
        x.add(10, 10, 1, 1);
        due("case 1", x.clash(), 1);
        due("an add that is taken", x.add(20, 20, 1, 1), 2);
        x.add(5, 4, 1, 1);
        x.add(0, 0, 16, 1);
        due("still case 1", x.clash(), 1);
        x.rest(2, 0);
        x.way(1);
        x.tables(1, 1);
        due("asked again", x.clash(), 1);
        x.add(0, 10, 1, 1);
        due("the latest", x.clash(), 0);
    }

    static void theCaseOfClashMayBeDropped() {
        says("(A CASE may be dropped since.)");
        ChoiceCode x = with(0, 0, 1, 1, 10, 10, 2, 1);
        x.add(10, 10, 1, 1);
        x.drop(1);
        due("clash()", x.clash(), 1);
        due("add in its place", x.add(10, 10, 1, 1), 1);
        due("clash() of then", x.clash(), 1);
        x.drop(0);
        x.drop(1);
        due("with no cases", x.clash(), 1);
    }

    static void howManyAreLeft() {
        says("drop: A CASE is there no more: how many are left. UNKNOWN.");
        ChoiceCode x = with(0, 0, 1, 1, 10, 10, 2, 1);
        due("drop(2)", x.drop(2), UNKNOWN);
        due("drop(0)", x.drop(0), 1);
        due("drop(0) again", x.drop(0), UNKNOWN);
        due("told(0, 0)", x.told(0, 0), UNKNOWN);
        dueGo(x, 0, 0);
        dueGo(x, 10, 2);
        due("the last one", x.drop(1), 0);
        due("of none", x.drop(1), UNKNOWN);
        due("count(0)", x.count(0), 0);
        ChoiceCode all = withAll24();
        for (int c = 0; c < 24; c++) {
            due("drop(" + c + ")", all.drop(c), 23 - c);
        }
    }

    static void theIntsOfADroppedCaseAreFree() {
        says("drop: A CASE is there no more: its ints are in no CASE");
        ChoiceCode x = with(MIN, MAX, 1, 1);
        due("taken", x.add(0, 0, 2, 2), STATE);
        due("drop(0)", x.drop(0), 0);
        due("free", x.add(MIN, MAX, 2, 2), 0);
        due("told(0, 2)", x.told(0, 2), 2);
    }

    static void theRestsTargetAheadOfThat() {
        says("rest: its TARGET ahead of that. OUTSIDE.");
        ChoiceCode x = new ChoiceCode();
        due("rest(15, 1000)", x.rest(15, 1000), 0);
        due("rest(0, 0)", x.rest(0, 0), 15);
        due("rest(7, 0)", x.rest(7, 0), 0);
        due("refused", x.rest(16, 0), OUTSIDE);
        due("rest(7, 1)", x.rest(7, 1), 7);
        due("rest(8, 1)", x.rest(8, 1), 7);
        for (int t : new int[] {-1, 16, MIN, MAX}) {
            due("rest(" + t + ", 0)", x.rest(t, 0), OUTSIDE);
        }
        for (int w : new int[] {-1, 1001, MIN, MAX}) {
            due("rest(0, " + w + ")", x.rest(0, w), OUTSIDE);
        }
        due("after these", x.rest(0, 0), 8);
    }

    static void theRestsWeightIsToldNoMore() {
        says("(Its WEIGHT is told, no more.): COST and THE TREE are without it");
        ChoiceCode x = single(0, 0, 5);
        x.way(1);
        int cost = x.cost();
        x.rest(0, 1000);
        due("cost()", x.cost(), cost);
        due("first question", x.line(0, 1), 2000);
        due("weight of cluster 0", x.cluster(0, 3), 0);
        due("spent()", x.spent(), 5L * x.steps(2000) + 1000L * x.steps(MIN));
    }

    static void densityAheadOfThat() {
        says("tables: DENSITY ahead of that. OUTSIDE.");
        ChoiceCode x = new ChoiceCode();
        due("tables(1, 256)", x.tables(1, 256), 40);
        due("tables(100, 1)", x.tables(100, 1), 1);
        due("refused by DENSITY", x.tables(101, 1), OUTSIDE);
        due("refused by SIZE", x.tables(50, 257), OUTSIDE);
        due("tables(40, 64)", x.tables(40, 64), 100);
    }

    static void theWayAheadOfThat() {
        says("WAY of THE TREE (0, 1) from now on: the one ahead of that. OUTSIDE.");
        ChoiceCode x = new ChoiceCode();
        due("way(0)", x.way(0), 0);
        due("way(1)", x.way(1), 0);
        due("way(1) again", x.way(1), 1);
        for (int way : new int[] {-1, 2, MIN, MAX}) {
            due("way(" + way + ")", x.way(way), OUTSIDE);
        }
        due("way(0) again", x.way(0), 1);
    }

    static void whatIsToldOfACase() {
        says("Of a CASE: 0 low, 1 high, 2 TARGET, 3 WEIGHT. UNKNOWN, OUTSIDE.");
        ChoiceCode x = with(3, 8, 2, 9, MIN, MIN, 0, 0);
        int[] told = {3, 8, 2, 9};
        for (int what = 0; what < 4; what++) {
            due("told(0, " + what + ")", x.told(0, what), told[what]);
        }
        for (int what : new int[] {-1, 4, MIN, MAX}) {
            due("told(0, " + what + ")", x.told(0, what), OUTSIDE);
        }
        for (int c : new int[] {-1, 2, 23, 24, MIN, MAX}) {
            due("told(" + c + ", 0)", x.told(c, 0), UNKNOWN);
        }
        due("a target of 0 is a case", x.told(1, 2), 0);
    }

    static void whatIsToldMayBeAsARefusalIs() {
        says("(What is told may be as a refusal is; likewise below where ints are told.)");
        for (int v : new int[] {NONE, UNKNOWN, OUTSIDE, STATE, FULL}) {
            ChoiceCode x = with(v, v + 1, 1, 0, v - 9, v - 8, 1, 0);
            due("told(0, 0)", x.told(0, 0), v);
            due("run(1, 0)", x.run(1, 0), v);
            due("line(0, 1)", x.line(0, 1), v - 9);
            due("told(1, 1)", with(50, 50, 1, 0, v - 1, v, 1, 0).told(1, 1), v);
            due("run(0, 1)", with(v - 1, v, 1, 0).run(0, 1), v);
            due("b of LESS", with(v, v + 1, 1, 0).line(0, 1), v);
            due("b of MORE", with(v - 1, v, 1, 0).line(1, 1), v);
            due("v of SAME", with(v, v, 1, 0).line(0, 1), v);
            due("b of BIT", with(v, v, 1, 0, v + 1, v + 1, 2, 0).line(2, 1), v);
        }
        // The row of bits that is UNKNOWN as a number: all but 2, 5 and 6.
        ChoiceCode row = with(0, 1, 1, 0, 2, 2, 2, 0, 3, 4, 1, 0, 5, 6, 2, 0, 7, 63, 1, 0);
        due("bits(2)", row.bits(2), UNKNOWN);
        due("bits(3)", row.bits(3), 100);
        due("line(2, 0)", row.line(2, 0), BIT);
    }

    // ---- promises 9 to 15

    static void whatIsCounted() {
        says("count: How many: 0 CASES .. 7 the greatest number of STEPS of any int. OUTSIDE.");
        ChoiceCode x = with(0, 0, 1, 1, 1, 1, 2, 1, 100, 100, 1, 1);
        x.print();
        int[] counts = {3, 3, 2, 1, 8, 0, 0, 6};
        counts[6] = lines("0 LESS 100 3", "1 SAME 100 1", "2 END 0", "3 LESS 0 7", "4 MORE 1 7",
            "5 BIT 0 0000000000000001 1", "6 BIT 0 0000000000000002 2", "7 END 0").length();
        counts[7] = 5;
        for (int what = 0; what < counts.length; what++) {
            due("count(" + what + ")", x.count(what), counts[what]);
        }
        for (int what : new int[] {-1, 8, 9, MIN, MAX}) {
            due("count(" + what + ")", x.count(what), OUTSIDE);
        }
    }

    static void theGreatestStepsAreOfAnyInt() {
        says("7 the greatest number of STEPS of any int: of an int in no CASE, and of the least and the greatest");
        due("no cases", new ChoiceCode().count(7), 1);
        due("one case of all ints", with(MIN, MAX, 1, 0).count(7), 1);
        due("beside one int", with(0, 0, 1, 0).count(7), 2);
        due("beside the least alone", with(MIN, MIN, 1, 0).count(7), 2);
        due("beside the greatest alone", with(MAX, MAX, 1, 0).count(7), 2);
        due("in a span", with(0, 9, 1, 0).count(7), 3);
        due("in a gap of one int among bits", with(0, 0, 1, 0, 2, 2, 2, 0).count(7), 5);
        due("in a gap of two ints among bits", with(0, 1, 1, 0, 4, 5, 2, 0).count(7), 5);
        due("of the last bits, no gap", with(0, 0, 1, 0, 1, 1, 2, 0).count(7), 4);
        // The one int in no case does most: all others do two lines.
        due("the least int alone", with(MIN + 1, MIN + 1, 1, 0, MIN + 2, MAX, 2, 0).count(7), 3);
        due("the greatest int alone", with(MIN, MAX - 2, 1, 0, MAX - 1, MAX - 1, 2, 0).count(7), 3);
        due("the one that is left out", with(0, 0, 1, 0, 1, 1, 0, 0, 2, 2, 2, 0).count(7), 5);
    }

    static void questionsAreOneLessThanClusters() {
        says("3 questions in THE TREE");
        for (int n = 0; n <= 24; n++) {
            due("questions over " + n, single(new int[n]).count(3), Math.max(0, n - 1));
        }
    }

    static void numbersInAllTables() {
        says("5 numbers in all TABLES");
        ChoiceCode x = with(0, 0, 1, 0, 1, 1, 2, 0, 2, 2, 3, 0, 3, 3, 4, 0,
            100, 100, 1, 0, 101, 101, 2, 0, 103, 103, 3, 0, 104, 104, 4, 0);
        due("two tables", x.count(5), 9);
        x.drop(0);
        due("one of them", x.count(5), 5);
        x.drop(4);
        due("none of them", x.count(5), 0);
    }

    static void whatIsToldOfARun() {
        says("Of a RUN: 0 low, 1 high, 2 TARGET, 3 WEIGHT. UNKNOWN, OUTSIDE.");
        ChoiceCode x = with(MIN, MIN, 1, 1000, 3, MAX, 15, 0);
        dueRun(x, 0, MIN, MIN, 1, 1000);
        dueRun(x, 1, 3, MAX, 15, 0);
        for (int r : new int[] {-1, 2, 23, 24, MIN, MAX}) {
            due("run(" + r + ", 0)", x.run(r, 0), UNKNOWN);
        }
        for (int what : new int[] {-1, 4, MIN, MAX}) {
            due("run(0, " + what + ")", x.run(0, what), OUTSIDE);
        }
        x.drop(1);
        due("a run that is no more", x.run(1, 0), UNKNOWN);
    }

    static void allRunsThatCanBe() {
        says("RUNS: 24 CASES that do not meet are 24");
        ChoiceCode x = withAll24();
        due("count(1)", x.count(1), 24);
        dueRun(x, 23, 2300, 2300, 1, 0);
        due("run(24, 0)", x.run(24, 0), UNKNOWN);
    }

    static void whatIsToldOfACluster() {
        says("Of a CLUSTER: 0 KIND, 1 its first RUN, 2 how many RUNS, 3 WEIGHT, 4 how many questions .."
            + " UNKNOWN, OUTSIDE.");
        ChoiceCode x = with(0, 0, 1, 4, 1, 1, 2, 5, 100, 100, 1, 6);
        int[][] rows = {{BITS_KIND, 0, 2, 9, 1}, {SPAN_KIND, 2, 1, 6, 1}};
        for (int c = 0; c < rows.length; c++) {
            for (int what = 0; what < 5; what++) {
                due("cluster(" + c + ", " + what + ")", x.cluster(c, what), rows[c][what]);
            }
        }
        for (int c : new int[] {-1, 2, 23, 24, MIN, MAX}) {
            due("cluster(" + c + ", 0)", x.cluster(c, 0), UNKNOWN);
        }
        for (int what : new int[] {-1, 5, MIN, MAX}) {
            due("cluster(0, " + what + ")", x.cluster(0, what), OUTSIDE);
        }
        x.drop(2);
        due("a cluster that is no more", x.cluster(1, 0), UNKNOWN);
    }

    static void costWhicheverWayItIs() {
        says("COST of THE TREE, by WEIGHTS and 1 as for WAY 1, whichever WAY it is.");
        ChoiceCode x = single(0, 0, 1000);
        due("balanced", x.cost(), 1 + 2 * 1 + 2 * 1001);
        x.way(1);
        due("cheapest", x.cost(), 2 * 1 + 2 * 1 + 1001);
        due("no clusters", new ChoiceCode().cost(), 0);
        due("one", single(1000).cost(), 0);
        due("two of no weight", single(0, 0).cost(), 2);
    }

    static void whatIsToldOfALine() {
        says("Of a LINE: 0 what it is, 1 b, v (of END t), 2 l, t, n (0 of END, of BIT t). UNKNOWN, OUTSIDE.");
        ChoiceCode x = with(0, 0, 14, 0, 2, 2, 13, 0, 100, 100, 11, 0, 200, 299, 12, 0,
            1000, 1000, 1, 0, 1001, 1001, 2, 0, 1002, 1002, 3, 0, 1003, 1003, 4, 0);
        x.rest(15, 0);
        int[][] rows = {{LESS, 200, 8}, {LESS, 1000, 5}, {MORE, 1003, 4}, {TABLE, 1000, 4}, {END, 15, 0},
            {MORE, 299, 7}, {END, 12, 0}, {END, 15, 0}, {LESS, 100, 11}, {SAME, 100, 11}, {END, 15, 0},
            {LESS, 0, 15}, {MORE, 2, 15}, {BIT, 0, 14}, {BIT, 0, 13}, {END, 15, 0}};
        due("count(4)", x.count(4), rows.length);
        for (int i = 0; i < rows.length; i++) {
            dueLine(x, i, rows[i][0], rows[i][1], rows[i][2]);
        }
        for (int i : new int[] {-1, rows.length, 399, 400, MIN, MAX}) {
            due("line(" + i + ", 0)", x.line(i, 0), UNKNOWN);
        }
        for (int what : new int[] {-1, 3, MIN, MAX}) {
            due("line(0, " + what + ")", x.line(0, what), OUTSIDE);
        }
    }

    static void aLineThatIsNoMore() {
        says("line, bits, entry: UNKNOWN (no such .. LINE): one of an earlier CODE");
        ChoiceCode x = with(0, 0, 1, 0, 1, 1, 2, 0, 2, 2, 3, 0);
        due("line(5, 0)", x.line(5, 0), END);
        due("bits(5)", x.bits(5), 0);
        due("entry(5, 0)", x.entry(5, 0), NONE);
        x.drop(2);
        due("line(5, 0) behind drop", x.line(5, 0), UNKNOWN);
        due("bits(5) behind drop", x.bits(5), UNKNOWN);
        due("entry(5, 0) behind drop", x.entry(5, 0), UNKNOWN);
        due("the last", x.line(4, 0), END);
    }

    static void theRowOfOtherLinesIs0() {
        says("bits: The row s of a LINE that is a BIT; 0 of others. UNKNOWN.");
        ChoiceCode x = with(0, 0, 1, 0, 63, 63, 2, 0);
        long[] rows = {0, 0, 1, Long.MIN_VALUE, 0};
        for (int i = 0; i < rows.length; i++) {
            due("bits(" + i + ")", x.bits(i), rows[i]);
        }
        for (int i : new int[] {-1, rows.length, 399, 400, MIN, MAX}) {
            due("bits(" + i + ")", x.bits(i), UNKNOWN);
        }
        due("of a SAME", with(7, 7, 1, 0).bits(0), 0);
        due("of a TABLE", denseFrom(0, 6).bits(2), 0);
        due("of END alone", new ChoiceCode().bits(0), 0);
        // The same places held rows a moment ago.
        x.drop(0);
        for (int i = 0; i < 2; i++) {
            due("bits(" + i + ") behind drop", x.bits(i), 0);
        }
        x.add(0, 9, 2, 0);
        due("in bits of one target", x.bits(2), Long.MIN_VALUE | 1023);
        due("its END", x.bits(3), 0);
    }

    static void aRowOfAllBitsButOne() {
        says("The row s of a LINE that is a BIT: 63 of 64 bits");
        ChoiceCode x = with(0, 62, 1, 0, 63, 63, 2, 0);
        due("the first 63", x.bits(2), Long.MAX_VALUE);
        due("the last", x.bits(3), Long.MIN_VALUE);
        ChoiceCode y = with(0, 0, 1, 0, 1, 63, 2, 0);
        due("the first", y.bits(2), 1);
        due("the last 63", y.bits(3), -2);
    }

    static void entryIsNoneBeyondTheRow() {
        says("entry: Number k of a LINE that is a TABLE; NONE: it has none such, or is none. UNKNOWN.");
        ChoiceCode x = denseFrom(-3, 8);
        x.rest(15, 0);
        int[] row = {1, 2, 15, 3, 3, 3, 3, 4};
        for (int k = 0; k < row.length; k++) {
            due("entry(2, " + k + ")", x.entry(2, k), row[k]);
        }
        for (int k : new int[] {-1, 8, 9, MIN, MAX}) {
            due("entry(2, " + k + ")", x.entry(2, k), NONE);
        }
        for (int i : new int[] {0, 1, 3}) {
            for (int k : new int[] {-1, 0, 1, MIN, MAX}) {
                due("entry(" + i + ", " + k + ")", x.entry(i, k), NONE);
            }
        }
        for (int i : new int[] {-1, 4, 399, 400, MIN, MAX}) {
            due("entry(" + i + ", 0)", x.entry(i, 0), UNKNOWN);
            due("entry(" + i + ", -1)", x.entry(i, -1), UNKNOWN);
        }
    }

    static void entryOfOneTableOfTwo() {
        says("entry: NONE: it has none such: the numbers of another TABLE are not its own");
        ChoiceCode x = with(0, 0, 1, 0, 1, 1, 2, 0, 2, 2, 3, 0, 3, 3, 4, 0,
            100, 100, 5, 0, 101, 101, 6, 0, 103, 103, 7, 0, 104, 104, 8, 0);
        dueLine(x, 2, TABLE, 100, 5);
        dueLine(x, 6, TABLE, 0, 4);
        int[] upper = {5, 6, 0, 7, 8}, lower = {1, 2, 3, 4};
        for (int k = 0; k < upper.length; k++) {
            due("entry(2, " + k + ")", x.entry(2, k), upper[k]);
        }
        due("entry(2, 5)", x.entry(2, 5), NONE);
        due("entry(2, 6)", x.entry(2, 6), NONE);
        for (int k = 0; k < lower.length; k++) {
            due("entry(6, " + k + ")", x.entry(6, k), lower[k]);
        }
        due("entry(6, 4)", x.entry(6, 4), NONE);
        due("entry(6, -1)", x.entry(6, -1), NONE);
    }

    // ---- promises 16 to 21

    static void theLeastAndTheGreatestIntRun() {
        says("THE CODE run with X: the least and the greatest int");
        ChoiceCode none = new ChoiceCode();
        dueGo(none, MIN, 0);
        dueGo(none, MAX, 0);
        ChoiceCode ends = with(MIN, MIN, 1, 0, MAX, MAX, 2, 0);
        dueGo(ends, MIN, 1);
        dueGo(ends, MIN + 1, 0);
        dueGo(ends, MAX - 1, 0);
        dueGo(ends, MAX, 2);
        ChoiceCode inner = with(MIN + 1, MIN + 2, 1, 0, MAX - 2, MAX - 1, 2, 0);
        dueGo(inner, MIN, 0);
        dueGo(inner, MIN + 1, 1);
        dueGo(inner, MAX - 1, 2);
        dueGo(inner, MAX, 0);
    }

    static void bothEndsOfEachCase() {
        says("THE CODE run with X: at both ends of each CASE and right beside them, by both WAYS");
        ChoiceCode x = scene();
        for (int way = 1; way >= 0; way--) {
            x.way(way);
            for (int[] span : new int[][] {{0, 1}, {5, 6}, {18, 19}, {100, 104}, {118, 120}, {200, 200}, {218, 219},
                {1000, 2000}, {3000, 3000}, {3003, 3003}, {5000, 5008}}) {
                for (int number : new int[] {span[0] - 1, span[0], span[1], span[1] + 1}) {
                    due("go(" + number + ") by way " + way, x.go(number), x.by(number));
                }
            }
        }
    }

    static void stepsTillTheEnd() {
        says("STEPS of a number: LINES that are done till the end.");
        due("one END", new ChoiceCode().steps(0), 1);
        due("of a span of all", with(MIN, MAX, 1, 0).steps(0), 1);
        ChoiceCode same = with(7, 7, 1, 0);
        due("SAME that fits", same.steps(7), 1);
        due("SAME, END below", same.steps(6), 2);
        due("SAME, END above", same.steps(8), 2);
        ChoiceCode span = with(7, 9, 1, 0);
        int[][] rows = {{MIN, 2}, {6, 2}, {7, 3}, {9, 3}, {10, 3}, {MAX, 3}};
        for (int[] row : rows) {
            due("span, steps(" + row[0] + ")", span.steps(row[0]), row[1]);
        }
        ChoiceCode bits = with(0, 0, 1, 0, 2, 2, 2, 0, 63, 63, 3, 0);
        int[][] bitRows = {{-1, 2}, {0, 3}, {1, 6}, {2, 4}, {62, 6}, {63, 5}, {64, 3}};
        for (int[] row : bitRows) {
            due("bits, steps(" + row[0] + ")", bits.steps(row[0]), row[1]);
        }
        ChoiceCode table = denseFrom(0, 64);
        int[][] tableRows = {{-1, 2}, {0, 3}, {2, 3}, {63, 3}, {64, 3}, {MIN, 2}, {MAX, 3}};
        for (int[] row : tableRows) {
            due("table, steps(" + row[0] + ")", table.steps(row[0]), row[1]);
        }
    }

    static void byTheCasesAlone() {
        says("by: The TARGET of X by the CASES alone: one with the TARGET of THE REST, too");
        ChoiceCode x = with(MIN, -1, 1, 0, 0, MAX, 2, 0);
        x.rest(2, 0);
        dueGo(x, MIN, 1);
        dueGo(x, -1, 1);
        dueGo(x, 0, 2);
        dueGo(x, MAX, 2);
        x.rest(3, 0);
        dueGo(x, 0, 2);
        x.drop(1);
        dueGo(x, 0, 3);
        dueGo(x, MAX, 3);
    }

    static void theLeastIntInNoCase() {
        says("spent: .. times STEPS of the least int in no CASE");
        // Behind the first case two lines, in the gap three: the steps tell which int it is.
        ChoiceCode least = with(MIN + 1, 5, 1, 0);
        least.rest(0, 1);
        due("the least int", least.spent(), 2);
        ChoiceCode behind = with(MIN, 5, 1, 0, 100, 100, 2, 0);
        behind.rest(0, 1);
        due("behind the first case", behind.spent(), behind.steps(6));
        ChoiceCode meeting = with(0, 99, 2, 0, MIN, -1, 1, 0);
        meeting.rest(0, 1);
        due("behind two that meet, told in no order", meeting.spent(), 3);
        ChoiceCode last = with(MIN, -1, 1, 0, 0, MAX - 1, 2, 0);
        last.rest(0, 1000);
        due("the greatest int", last.spent(), 3000);
        ChoiceCode none = new ChoiceCode();
        none.rest(0, 1000);
        due("no cases", none.spent(), 1000);
    }

    static void theLeastIntInNoCaseIsNotOneLeftOut() {
        says("spent: the least int in no CASE is in none with the TARGET of THE REST either");
        // An int below 0 does two lines, one above 9 three.
        ChoiceCode x = with(0, 9, 1, 0, MIN, -1, 2, 0);
        x.rest(2, 1);
        due("behind both", x.spent(), 3);
        x.drop(1);
        due("the least", x.spent(), 2);
    }

    static void noIntIsInNoCase() {
        says("spent: (0, if there is none)");
        ChoiceCode x = with(MIN, MAX, 1, 0);
        x.rest(0, 1000);
        due("one case of all ints", x.spent(), 0);
        ChoiceCode y = with(0, MAX, 1, 3, MIN, -1, 2, 5);
        y.rest(0, 1000);
        due("two halves", y.spent(), 3 * 2 + 5 * 2);
        y.rest(1, 1000);
        due("one of them left out", y.spent(), 3 * 2 + 5 * 2);
        ChoiceCode last = with(MIN, MAX - 1, 1, 3, MAX, MAX, 2, 5);
        last.rest(0, 1000);
        due("the greatest int is a case", last.spent(), 3 * 2 + 5 * 2);
        ChoiceCode all = new ChoiceCode();
        for (int c = 0; c < 24; c++) {
            int low = c == 0 ? MIN : c, high = c == 23 ? MAX : c;
            due("add", all.add(low, high, 1, 1), c);
        }
        all.rest(0, 1000);
        due("24 cases of all ints", all.spent(), 24);
        all.drop(23);
        due("all but the last of them", all.spent(), 23 * 2 + 1000 * 2);
    }

    static void overAllCases() {
        says("The sum, over all CASES, of WEIGHT times STEPS of its low: of those left out, too");
        ChoiceCode x = with(0, 9, 1, 1000, 20, 29, 0, 1000);
        due("spent()", x.spent(), 1000L * 3 + 1000L * 3);
        // In bits the low of a case may do fewer lines than its high, or another case of its run.
        ChoiceCode y = with(0, 0, 1, 7, 1, 1, 1, 11, 2, 2, 2, 13);
        due("bits", y.spent(), 7L * 3 + 11L * 3 + 13L * 4);
        ChoiceCode low = with(MIN, MIN, 1, 3, MIN + 1, MAX, 2, 5);
        due("at the least int", low.spent(), 3L * 2 + 5L * 2);
        due("no cases", new ChoiceCode().spent(), 0);
    }

    static void spentOfAllTheGreatestWeights() {
        says("spent: 24 CASES of the greatest WEIGHT, and THE REST");
        int[] weights = new int[24];
        Arrays.fill(weights, 1000);
        ChoiceCode x = single(weights);
        x.rest(0, 1000);
        // Each int does its questions and SAME; the least one the four above cluster 0, SAME and END.
        due("spent()", x.spent(), 1000L * (112 + 24) + 1000L * 6);
    }

    static void theOutIsEmptyAtFirst() {
        says("THE OUT is empty.");
        ChoiceCode x = with(0, 9, 1, 1);
        x.go(5);
        x.count(4);
        for (int i : new int[] {0, 1, -1, MIN, MAX}) {
            due("out(" + i + ")", x.out(i), NONE);
        }
        due("count(6)", x.count(6), 0);
    }

    static void printIsHowManyBytes() {
        says("THE OUT becomes THE CODE, PRINTED: how many bytes.");
        ChoiceCode x = new ChoiceCode();
        due("no cases", x.print(), 8);
        due("again", x.print(), 8);
        due("count(6)", x.count(6), 8);
        due("out(8)", x.out(8), NONE);
    }

    static void theOutBecomesShorter() {
        says("THE OUT becomes THE CODE, PRINTED: nothing of a longer one is left");
        ChoiceCode x = with(0, 9, 1, 1, 100, 199, 2, 1);
        int many = x.print();
        due("its last byte", x.out(many - 1), 10);
        x.drop(0);
        x.drop(1);
        due("out(many - 1) ahead of print", x.out(many - 1), 10);
        due("print()", x.print(), 8);
        due("its last byte", x.out(7), 10);
        due("behind it", x.out(8), NONE);
        due("where the last byte was", x.out(many - 1), NONE);
    }

    static void theOutStaysTillPrint() {
        says("THE OUT becomes THE CODE by print alone: a change leaves it");
        ChoiceCode x = with(4, 4, 7, 1);
        int many = x.print();
        x.add(5, 5, 1, 1);
        x.rest(3, 3);
        x.way(1);
        x.tables(1, 1);
        x.drop(0);
        due("count(4)", x.count(4), 2);
        due("count(6)", x.count(6), many);
        String want = lines("0 SAME 4 7", "1 END 0");
        for (int i = 0; i < want.length(); i++) {
            due("out(" + i + ")", x.out(i), want.charAt(i));
        }
        due("out(" + many + ")", x.out(many), NONE);
    }

    static void behindTheLastByte() {
        says("Byte i of THE OUT; NONE: there is none such.");
        ChoiceCode x = new ChoiceCode();
        x.print();
        due("out(0)", x.out(0), '0');
        due("out(7)", x.out(7), 10);
        for (int i : new int[] {8, 9, 255, 256, 257, -1, MIN, MAX}) {
            due("out(" + i + ")", x.out(i), NONE);
        }
    }

    static void aLongOut() {
        says("THE OUT becomes THE CODE, PRINTED: 12 TABLES of 256 numbers of two figures");
        ChoiceCode x = new ChoiceCode();
        x.tables(1, 256);
        for (int k = 0; k < 12; k++) {
            x.add(1000000000 + k * 1000, 1000000000 + k * 1000 + 100, 14, 1);
            x.add(1000000000 + k * 1000 + 155, 1000000000 + k * 1000 + 255, 15, 1);
        }
        x.rest(10, 0);
        StringBuilder row = new StringBuilder();
        for (int k = 0; k < 256; k++) {
            row.append(k <= 100 ? " 14" : k < 155 ? " 10" : " 15");
        }
        int all = 0;
        int many = x.count(4);
        due("count(4)", many, 11 + 1 + 3 * 12);
        for (int i = 0; i < many; i++) {
            int what = x.line(i, 0);
            all += Integer.toString(i).length();
            if (what == END) {
                all += " END 10\n".length();
            } else if (what == TABLE) {
                all += " TABLE 1000000000 256\n".length() + row.length();
            } else {
                all += " LESS 1000000000 \n".length() + Integer.toString(x.line(i, 2)).length();
            }
        }
        due("print()", x.print(), all);
        due("count(6)", x.count(6), all);
        due("the last byte", x.out(all - 1), 10);
        due("ahead of it", x.out(all - 2), '0');
        due("behind it", x.out(all), NONE);
    }
}
