import java.util.Arrays;

/** A test for each sentence of the terms 1 to 5 that names a boundary. */
public final class TermsBoundsTest extends Bounds {
    public static void main(String[] args) throws IllegalAccessException {
        runAll(TermsBoundsTest.class);
    }

    // ---- ahead of the terms

    static void theLastOf512Calls() {
        says("An object is used for at most 512 calls after it has been made.");
        ChoiceCode x = new ChoiceCode();
        for (int k = 0; k < 170; k++) {
            due("add", x.add(k, k, 1, 1), 0);
            due("print of round " + k, x.print(), ("0 SAME " + k + " 1\n1 END 0\n").length());
            due("drop", x.drop(0), 0);
        }
        due("call 511", x.add(MIN, MAX, 5, 1), 0);
        due("call 512", x.go(MAX), 5);
    }

    static void noCallThrows() {
        says("LANGUAGE.md, 7: No call may ever throw or fail to end, for any arguments in any state");
        int[] wild = {MIN, MIN + 1, -101, -1, 0, 1, 2, 7, 15, 16, 23, 24, 63, 64, 256, 400, 1000, 65536, MAX - 1, MAX};
        ChoiceCode empty = new ChoiceCode();
        ChoiceCode full = scene();
        for (int a : wild) {
            for (int b : wild) {
                callAll(empty, a, b);
                callAll(full, a, b);
            }
        }
    }

    private static void callAll(ChoiceCode x, int a, int b) {
        x.told(a, b);
        x.run(a, b);
        x.cluster(a, b);
        x.line(a, b);
        x.entry(a, b);
        x.bits(a);
        x.count(a);
        x.go(a);
        x.steps(a);
        x.by(a);
        x.out(a);
        x.clash();
        x.cost();
        x.spent();
        x.print();
        x.add(a, b, b & 15, a & 511);
        x.add(a, b, a, b);
        x.rest(a, b);
        x.tables(a, b);
        x.way(b & 1);
        x.way(a);
        x.drop(a);
        x.print();
    }

    static void theConstants() {
        says("NONE = -1, UNKNOWN = -101, OUTSIDE = -102, STATE = -103, FULL = -104");
        due("NONE", ChoiceCode.NONE, -1);
        due("UNKNOWN", ChoiceCode.UNKNOWN, -101);
        due("OUTSIDE", ChoiceCode.OUTSIDE, -102);
        due("STATE", ChoiceCode.STATE, -103);
        due("FULL", ChoiceCode.FULL, -104);
    }

    // ---- term 1: cases

    static void casesAre24AtMost() {
        says("CASES (24 at most)");
        ChoiceCode x = withAll24();
        due("25th", x.add(9000, 9000, 1, 1), FULL);
        due("count(0)", x.count(0), 24);
        due("told(23, 0)", x.told(23, 0), 2300);
        due("told(24, 0)", x.told(24, 0), UNKNOWN);
        due("by(9000)", x.by(9000), 0);
        due("go(9000)", x.go(9000), 0);
    }

    static void noCases() {
        says("what has a number has it from 0 on: with no CASES there is none");
        ChoiceCode x = new ChoiceCode();
        due("count(0)", x.count(0), 0);
        due("told(0, 0)", x.told(0, 0), UNKNOWN);
        due("drop(0)", x.drop(0), UNKNOWN);
        due("run(0, 0)", x.run(0, 0), UNKNOWN);
        due("cluster(0, 0)", x.cluster(0, 0), UNKNOWN);
        due("line(0, 0)", x.line(0, 0), END);
        due("line(1, 0)", x.line(1, 0), UNKNOWN);
        due("by(0)", x.by(0), 0);
    }

    static void aSpanIsOneIntAtLeast() {
        says("a SPAN of ints from low to high: one int");
        ChoiceCode x = with(MIN, MIN, 1, 0, 0, 0, 2, 0, MAX, MAX, 3, 0);
        dueGo(x, MIN, 1);
        dueGo(x, MIN + 1, 0);
        dueGo(x, -1, 0);
        dueGo(x, 0, 2);
        dueGo(x, 1, 0);
        dueGo(x, MAX - 1, 0);
        dueGo(x, MAX, 3);
    }

    static void aSpanIsAllIntsAtMost() {
        says("a SPAN of ints from low to high: from the least to the greatest int");
        ChoiceCode x = with(MIN, MAX, 7, 9);
        due("told low", x.told(0, 0), MIN);
        due("told high", x.told(0, 1), MAX);
        due("count(1)", x.count(1), 1);
        dueRun(x, 0, MIN, MAX, 7, 9);
        dueGo(x, MIN, 7);
        dueGo(x, 0, 7);
        dueGo(x, MAX, 7);
        due("add in it", x.add(0, 0, 1, 1), STATE);
        due("add at its low", x.add(MIN, MIN, 1, 1), STATE);
        due("add at its high", x.add(MAX, MAX, 1, 1), STATE);
        due("add of all again", x.add(MIN, MAX, 1, 1), STATE);
    }

    static void aTargetIs0To15() {
        says("a TARGET (0 .. 15)");
        for (int t : new int[] {-1, 16, 17, MIN, MAX}) {
            due("add with target " + t, new ChoiceCode().add(0, 0, t, 0), OUTSIDE);
        }
        for (int t = 0; t <= 15; t++) {
            ChoiceCode x = with(5, 6, t, 0);
            due("told target", x.told(0, 2), t);
            due("rest's target ahead", x.rest(t == 3 ? 4 : 3, 0), 0);
            dueGo(x, 5, t);
        }
    }

    static void aWeightIs0To1000() {
        says("a WEIGHT (0 .. 1000)");
        for (int w : new int[] {-1, 1001, 1002, MIN, MAX}) {
            due("add with weight " + w, new ChoiceCode().add(0, 0, 1, w), OUTSIDE);
        }
        for (int w : new int[] {0, 1, 999, 1000}) {
            ChoiceCode x = with(5, 6, 1, w);
            due("told weight", x.told(0, 3), w);
            due("run's weight", x.run(0, 3), w);
            due("cluster's weight", x.cluster(0, 3), w);
            due("spent()", x.spent(), 3L * w);
        }
    }

    static void theRestsTargetIs0AtFirst() {
        says("THE REST has a TARGET, too (0 at first)");
        due("go(0)", new ChoiceCode().go(0), 0);
        due("by(0)", new ChoiceCode().by(0), 0);
        due("rest(5, 0)", new ChoiceCode().rest(5, 0), 0);
        due("a case with target 0 is left out", with(0, 0, 0, 0).count(1), 0);
    }

    static void theRestsWeightIs0AtFirst() {
        says("THE REST has .. a WEIGHT (0 at first)");
        due("no cases", new ChoiceCode().spent(), 0);
        due("a case of no weight", with(0, 0, 1, 0).spent(), 0);
        due("a case", with(0, 0, 1, 1).spent(), 1);
    }

    static void theRestIsAllIntsInNoCase() {
        says("THE REST: all ints in no CASE");
        ChoiceCode x = with(MIN + 1, -2, 1, 0, 0, 0, 2, 0, 2, MAX - 1, 3, 0);
        x.rest(4, 0);
        int[][] rows = {{MIN, 4}, {MIN + 1, 1}, {-2, 1}, {-1, 4}, {0, 2}, {1, 4}, {2, 3}, {MAX - 1, 3}, {MAX, 4}};
        for (int[] row : rows) {
            dueGo(x, row[0], row[1]);
        }
    }

    static void noIntInCommon() {
        says("No two CASES have an int in common.");
        int[][] refused = {{10, 20}, {10, 10}, {20, 20}, {15, 15}, {0, 10}, {20, 30}, {0, 30}, {9, 21}, {11, 19},
            {MIN, 10}, {20, MAX}, {MIN, MAX}};
        for (int[] span : refused) {
            due("add(" + span[0] + ", " + span[1] + ")", with(10, 20, 1, 0).add(span[0], span[1], 2, 0), STATE);
        }
        int[][] taken = {{0, 9}, {9, 9}, {21, 21}, {21, 30}, {MIN, 9}, {21, MAX}, {MIN, MIN}, {MAX, MAX}};
        for (int[] span : taken) {
            due("add(" + span[0] + ", " + span[1] + ")", with(10, 20, 1, 0).add(span[0], span[1], 2, 0), 1);
        }
    }

    static void noIntInCommonAcrossTheEnds() {
        says("No two CASES have an int in common: the greatest and the least int are two");
        ChoiceCode x = with(MAX, MAX, 1, 0, MIN, MIN, 2, 0);
        due("between them", x.add(MIN + 1, MAX - 1, 3, 0), 2);
        due("no int is left", x.add(0, 0, 1, 0), STATE);
        ChoiceCode y = with(MIN, -1, 1, 0);
        due("the other half", y.add(0, MAX, 2, 0), 1);
        due("a low far below", with(MAX - 5, MAX, 1, 0).add(MIN, MAX - 6, 2, 0), 1);
        due("a high far above", with(MIN, MIN + 5, 1, 0).add(MIN + 6, MAX, 2, 0), 1);
    }

    static void runsAreByLows() {
        says("RUNS: the SPANS of CASES, by lows");
        ChoiceCode x = with(1, 1, 1, 1, MAX, MAX, 2, 2, -1, -1, 3, 3, MIN, MIN, 4, 4, 0, 0, 5, 5,
            MIN + 1, MIN + 1, 6, 6);
        due("count(1)", x.count(1), 6);
        dueRun(x, 0, MIN, MIN, 4, 4);
        dueRun(x, 1, MIN + 1, MIN + 1, 6, 6);
        dueRun(x, 2, -1, -1, 3, 3);
        dueRun(x, 3, 0, 0, 5, 5);
        dueRun(x, 4, 1, 1, 1, 1);
        dueRun(x, 5, MAX, MAX, 2, 2);
    }

    static void spansThatMeetAreOneRun() {
        says("SPANS that meet (the one begins right behind the end of the other) and have one TARGET are one RUN");
        ChoiceCode x = with(10, 19, 1, 2, 20, 29, 1, 3);
        due("count(1)", x.count(1), 1);
        dueRun(x, 0, 10, 29, 1, 5);
        ChoiceCode turned = with(20, 29, 1, 3, 10, 19, 1, 2);
        due("told the other way round", turned.count(1), 1);
        dueRun(turned, 0, 10, 29, 1, 5);
    }

    static void spansThatDoNotMeetAreTwoRuns() {
        says("SPANS that meet (the one begins right behind the end of the other): one int between is no meeting");
        ChoiceCode x = with(10, 19, 1, 2, 21, 29, 1, 3);
        due("count(1)", x.count(1), 2);
        dueRun(x, 0, 10, 19, 1, 2);
        dueRun(x, 1, 21, 29, 1, 3);
        dueGo(x, 20, 0);
    }

    static void spansThatMeetWithTwoTargetsAreTwoRuns() {
        says("SPANS that meet .. and have one TARGET are one RUN: two TARGETS, two RUNS");
        ChoiceCode x = with(10, 19, 1, 2, 20, 29, 2, 3, 30, 39, 1, 4);
        due("count(1)", x.count(1), 3);
        dueRun(x, 0, 10, 19, 1, 2);
        dueRun(x, 1, 20, 29, 2, 3);
        dueRun(x, 2, 30, 39, 1, 4);
    }

    static void theGreatestIntIsNotAheadOfTheLeast() {
        says("SPANS that meet (the one begins right behind the end of the other): nothing is behind the greatest int");
        ChoiceCode x = with(MAX, MAX, 1, 2, MIN, MIN, 1, 3);
        due("count(1)", x.count(1), 2);
        dueRun(x, 0, MIN, MIN, 1, 3);
        dueRun(x, 1, MAX, MAX, 1, 2);
        due("count(2)", x.count(2), 2);
        ChoiceCode y = with(MIN, -2, 1, 0, 0, MAX, 1, 0);
        due("halves with an int between", y.count(1), 2);
        dueGo(y, -1, 0);
    }

    static void casesThatHoldEveryInt() {
        says("RUNS: CASES that hold every int and have one TARGET are one RUN");
        ChoiceCode x = with(1, MAX, 6, 3, MIN, -1, 6, 1, 0, 0, 6, 2);
        due("count(1)", x.count(1), 1);
        dueRun(x, 0, MIN, MAX, 6, 6);
        dueText("one line", x, "0 END 6\n");
    }

    static void aRunsWeightIsTheSum() {
        says("are one RUN, its WEIGHT the sum of theirs: all 24 of the greatest WEIGHT");
        ChoiceCode x = new ChoiceCode();
        for (int c = 23; c >= 0; c--) {
            due("add", x.add(c * 10, c * 10 + 9, 1, 1000), 23 - c);
        }
        due("count(1)", x.count(1), 1);
        dueRun(x, 0, 0, 239, 1, 24000);
        due("cluster's weight", x.cluster(0, 3), 24000);
    }

    static void casesWithTheRestsTargetAreLeftOutFirst() {
        says("(CASES that have the TARGET of THE REST are left out first.)");
        ChoiceCode x = with(0, 9, 1, 1, 10, 19, 2, 2, 20, 29, 1, 4);
        due("count(1)", x.count(1), 3);
        x.rest(2, 0);
        due("the one between is out, the others do not meet", x.count(1), 2);
        dueRun(x, 0, 0, 9, 1, 1);
        dueRun(x, 1, 20, 29, 1, 4);
        due("it is still a case", x.count(0), 3);
        due("told", x.told(1, 2), 2);
        x.rest(1, 0);
        due("both others are out", x.count(1), 1);
        dueRun(x, 0, 10, 19, 2, 2);
    }

    static void allCasesAreLeftOut() {
        says("(CASES that have the TARGET of THE REST are left out first.): all of them");
        ChoiceCode x = with(MIN, -1, 3, 5, 0, MAX, 3, 6);
        x.rest(3, 9);
        due("count(0)", x.count(0), 2);
        due("count(1)", x.count(1), 0);
        due("count(2)", x.count(2), 0);
        due("run(0, 0)", x.run(0, 0), UNKNOWN);
        dueText("no clusters", x, "0 END 3\n");
        due("spent()", x.spent(), 11);
    }

    static void gapsAreAsFarAsThereAreInts() {
        says("GAPS are what lies between RUNS, ahead of the first and behind the last one, as far as there are ints.");
        ChoiceCode x = with(MIN, MIN + 1, 1, 0, MIN + 3, -1, 2, 0, 1, MAX, 3, 0);
        x.rest(4, 0);
        dueGo(x, MIN, 1);
        dueGo(x, MIN + 1, 1);
        dueGo(x, MIN + 2, 4);
        dueGo(x, MIN + 3, 2);
        dueGo(x, 0, 4);
        dueGo(x, MAX, 3);
        ChoiceCode y = with(MIN + 1, -1, 1, 0, 0, MAX - 1, 2, 0);
        y.rest(5, 0);
        dueGo(y, MIN, 5);
        dueGo(y, MAX, 5);
    }

    // ---- term 2: clusters

    static void aSpanIsOneRun() {
        says("0 SPAN: one RUN. 1 BITS: two RUNS or more.");
        due("one run of one int", with(5, 5, 1, 0).cluster(0, 0), SPAN_KIND);
        due("one run of two cases", with(5, 5, 1, 0, 6, 6, 1, 0).cluster(0, 0), SPAN_KIND);
        due("two runs", with(5, 5, 1, 0, 6, 6, 2, 0).cluster(0, 0), BITS_KIND);
        due("two runs of one target", with(5, 5, 1, 0, 7, 7, 1, 0).cluster(0, 0), BITS_KIND);
    }

    static void bitsAre64IntsAtMost() {
        says("from the first low to the last high 64 ints at most");
        for (int b : new int[] {0, -63, -32, MIN, MAX - 63}) {
            ChoiceCode met = with(b, b, 1, 0, b + 63, b + 63, 2, 0);
            due("64 ints from " + b, met.count(2), 1);
            dueCluster(met, 0, BITS_KIND, 0, 2);
        }
        for (int b : new int[] {0, -64, -32, MIN, MAX - 64}) {
            ChoiceCode missed = with(b, b, 1, 0, b + 64, b + 64, 2, 0);
            due("65 ints from " + b, missed.count(2), 2);
            dueCluster(missed, 0, SPAN_KIND, 0, 1);
            dueCluster(missed, 1, SPAN_KIND, 1, 1);
        }
    }

    static void bitsAreCountedInWholeRuns() {
        says("from the first low to the last high 64 ints at most: the highs count, not the lows");
        due("its last high is int 64", with(0, 9, 1, 0, 60, 63, 2, 0).cluster(0, 0), BITS_KIND);
        due("its last high is int 65", with(0, 9, 1, 0, 60, 64, 2, 0).count(2), 2);
    }

    static void manyIntsDoNotWrapToFew() {
        says("64 ints at most: more than an int can tell are not few");
        int[][] pairs = {{MIN, MIN, MAX, MAX}, {MIN, -1, 0, MAX}, {-2000000000, -2000000000, 2000000000, 2000000000},
            {MIN, MIN, MIN + 70, MAX}, {MIN, MIN, -1, -1}, {-1, -1, MAX, MAX}, {MIN, MIN, 0, 0}, {MIN, MIN, 40, 40}};
        for (int[] p : pairs) {
            ChoiceCode x = with(p[0], p[1], 1, 0, p[2], p[3], 2, 0);
            x.tables(1, 256);
            due("clusters of " + Arrays.toString(p), x.count(2), 2);
            due("numbers of " + Arrays.toString(p), x.count(5), 0);
            dueGo(x, p[1], 1);
            dueGo(x, p[2], 2);
        }
    }

    static void bitsHave3UnlikeTargetsAtMost() {
        says("with 3 unlike TARGETS at most");
        ChoiceCode three = with(0, 0, 1, 0, 20, 20, 2, 0, 63, 63, 3, 0);
        due("three", three.count(2), 1);
        dueCluster(three, 0, BITS_KIND, 0, 3);
        ChoiceCode four = with(0, 0, 1, 0, 20, 20, 2, 0, 40, 40, 3, 0, 63, 63, 4, 0);
        due("four", four.count(2), 2);
        dueCluster(four, 0, BITS_KIND, 0, 3);
        dueCluster(four, 1, SPAN_KIND, 3, 1);
    }

    static void unlikeTargetsCountOnce() {
        says("with 3 unlike TARGETS at most: many RUNS of three TARGETS are three");
        ChoiceCode x = new ChoiceCode();
        for (int c = 0; c < 24; c++) {
            due("add", x.add(c * 2, c * 2, 13 + c % 3, 1), c);
        }
        due("count(1)", x.count(1), 24);
        due("count(2)", x.count(2), 1);
        dueCluster(x, 0, BITS_KIND, 0, 24);
        due("its weight", x.cluster(0, 3), 24);
        due("of the rest's target none counts", x.rest(9, 0), 0);
        due("count(2)", x.count(2), 1);
    }

    static void aTableIsOneRunNever() {
        says("2 TABLE: two RUNS or more");
        ChoiceCode x = with(0, 99, 1, 0, 100, 199, 1, 0);
        x.tables(1, 256);
        due("one run of two cases", x.cluster(0, 0), SPAN_KIND);
        due("count(5)", x.count(5), 0);
        ChoiceCode y = with(0, 99, 1, 0, 100, 199, 2, 0);
        y.tables(100, 200);
        dueCluster(y, 0, TABLE_KIND, 0, 2);
        due("count(5)", y.count(5), 200);
    }

    static void sizeIs64AtFirst() {
        says("as many ints as SIZE at most (.. 64 at first)");
        for (long low : new long[] {0, -40, MIN, MAX - 63L}) {
            due("64 ints from " + low, denseFrom(low, 64).cluster(0, 0), TABLE_KIND);
        }
        for (long low : new long[] {0, -40, MIN, MAX - 64L}) {
            due("65 ints from " + low, denseFrom(low, 65).count(2), 2);
        }
    }

    static void sizeJustMetAndJustMissed() {
        says("as many ints as SIZE at most (1 .. 256 ..)");
        for (int size : new int[] {5, 63, 65, 100, 255, 256}) {
            ChoiceCode met = denseFrom(0, size);
            met.tables(40, size);
            due("size " + size, met.count(2), 1);
            dueCluster(met, 0, TABLE_KIND, 0, 4);
            due("numbers", met.count(5), size);
            met.tables(40, size - 1);
            due("size " + (size - 1) + " for " + size, met.count(2), 2);
            due("numbers", met.count(5), size > 65 ? size - 1 : 0);
        }
        ChoiceCode x = denseFrom(0, 257);
        x.tables(1, 256);
        due("257 ints are never one", x.count(2), 2);
    }

    static void sizeIs1To256() {
        says("SIZE (1 .. 256)");
        for (int size : new int[] {0, -1, 257, 258, MIN, MAX}) {
            due("tables(40, " + size + ")", new ChoiceCode().tables(40, size), OUTSIDE);
        }
        for (int size : new int[] {1, 2, 255, 256}) {
            due("tables(40, " + size + ")", new ChoiceCode().tables(40, size), 40);
        }
        ChoiceCode x = with(0, 0, 1, 0, 1, 1, 2, 0, 2, 2, 3, 0, 3, 3, 4, 0);
        x.tables(1, 1);
        due("of size 1 none can be", x.count(2), 2);
        x.tables(1, 3);
        due("nor of 3", x.count(2), 2);
        x.tables(1, 4);
        due("of 4 one is", x.count(2), 1);
    }

    static void densityIs1To100() {
        says("DENSITY (1 .. 100)");
        for (int density : new int[] {0, -1, 101, 102, MIN, MAX}) {
            due("tables(" + density + ", 64)", new ChoiceCode().tables(density, 64), OUTSIDE);
        }
        for (int density : new int[] {1, 2, 99, 100}) {
            ChoiceCode x = new ChoiceCode();
            due("tables(" + density + ", 64)", x.tables(density, 64), 40);
            due("again", x.tables(40, 64), density);
        }
    }

    static void densityIs40AtFirst() {
        says("at least DENSITY in a hundred (.. 40 at first)");
        due("4 of 10", with(0, 0, 1, 0, 3, 3, 2, 0, 6, 6, 3, 0, 9, 9, 4, 0).cluster(0, 0), TABLE_KIND);
        due("4 of 11", with(0, 0, 1, 0, 3, 3, 2, 0, 6, 6, 3, 0, 10, 10, 4, 0).cluster(0, 0), BITS_KIND);
        due("25 of 62", with(0, 9, 1, 0, 20, 29, 2, 0, 40, 43, 3, 0, 61, 61, 4, 0).cluster(0, 0), TABLE_KIND);
        due("25 of 63", with(0, 9, 1, 0, 20, 29, 2, 0, 40, 43, 3, 0, 62, 62, 4, 0).cluster(0, 0), BITS_KIND);
    }

    static void densityJustMetAndJustMissed() {
        says("of which at least DENSITY in a hundred .. are in RUNS: neither rounded up nor down");
        // 39 of 98 are 39.8 in a hundred, 39 of 97 are 40.2.
        ChoiceCode x = with(0, 18, 1, 0, 78, 97, 2, 0);
        x.tables(40, 256);
        due("39 of 98", x.count(2), 2);
        x.tables(39, 256);
        due("39 of 98 by 39", x.count(2), 1);
        ChoiceCode y = with(0, 18, 1, 0, 77, 96, 2, 0);
        y.tables(40, 256);
        due("39 of 97", y.count(2), 1);
        y.tables(41, 256);
        due("39 of 97 by 41", y.count(2), 2);
        // 128 of 256 are half.
        ChoiceCode half = with(0, 63, 1, 0, 192, 255, 2, 0);
        half.tables(50, 256);
        due("half", half.count(2), 1);
        half.tables(51, 256);
        due("more than half", half.count(2), 2);
    }

    static void theLeastDensity() {
        says("at least DENSITY in a hundred (1 ..) are in RUNS");
        ChoiceCode x = with(0, 0, 1, 0, 199, 199, 2, 0);
        x.tables(1, 256);
        due("2 of 200", x.cluster(0, 0), TABLE_KIND);
        x.tables(2, 256);
        due("2 of 200 by 2", x.count(2), 2);
        ChoiceCode y = with(0, 0, 1, 0, 200, 200, 2, 0);
        y.tables(1, 256);
        due("2 of 201", y.count(2), 2);
    }

    static void theGreatestDensity() {
        says("at least DENSITY in a hundred (.. 100) are in RUNS");
        ChoiceCode x = with(0, 99, 1, 0, 100, 255, 2, 0);
        x.tables(100, 256);
        due("all of them", x.cluster(0, 0), TABLE_KIND);
        ChoiceCode y = with(0, 98, 1, 0, 100, 255, 2, 0);
        y.tables(100, 256);
        due("all but one", y.count(2), 2);
        y.tables(99, 256);
        due("all but one by 99", y.count(2), 1);
    }

    static void casesLeftOutAreNotInRuns() {
        says("of which at least DENSITY in a hundred .. are in RUNS: CASES that are left out are not");
        ChoiceCode x = with(0, 39, 1, 0, 40, 59, 3, 0, 60, 99, 2, 0);
        x.tables(90, 256);
        due("count(2)", x.count(2), 1);
        x.rest(3, 0);
        due("80 of a hundred", x.count(2), 2);
        x.tables(80, 256);
        due("by 80", x.count(2), 1);
        due("a number of the one left out", x.entry(2, 40), 3);
    }

    static void theFewestClusters() {
        says("of all ways to part the RUNS, in order, into CLUSTERS those with the fewest");
        // The longest first one would leave two that fit in none: 0 .. 149, then 180, then 249.
        ChoiceCode x = with(0, 49, 1, 0, 50, 99, 2, 0, 100, 149, 3, 0, 180, 180, 4, 0, 249, 249, 5, 0);
        x.tables(34, 160);
        due("count(2)", x.count(2), 2);
        dueCluster(x, 0, TABLE_KIND, 0, 2);
        dueCluster(x, 1, TABLE_KIND, 2, 3);
        x.tables(35, 160);
        due("without the second one", x.count(2), 3);
        dueCluster(x, 0, TABLE_KIND, 0, 3);
        dueCluster(x, 1, SPAN_KIND, 3, 1);
        dueCluster(x, 2, SPAN_KIND, 4, 1);
    }

    static void aThinRowMayBecomeDenseAgain() {
        says("of all ways .. those with the fewest: a row that is too thin may be part of one that is dense");
        ChoiceCode x = with(0, 0, 1, 0, 99, 99, 2, 0, 100, 255, 3, 0);
        x.tables(60, 256);
        due("count(2)", x.count(2), 1);
        dueCluster(x, 0, TABLE_KIND, 0, 3);
        x.tables(62, 256);
        due("158 of 256 are too few", x.count(2), 2);
        dueCluster(x, 0, SPAN_KIND, 0, 1);
        dueCluster(x, 1, TABLE_KIND, 1, 2);
    }

    static void theFirstClusterHasTheMostRuns() {
        says("of these those whose first one has the most RUNS");
        ChoiceCode x = with(0, 0, 1, 0, 40, 40, 2, 0, 80, 80, 1, 0);
        due("count(2)", x.count(2), 2);
        dueCluster(x, 0, BITS_KIND, 0, 2);
        dueCluster(x, 1, SPAN_KIND, 2, 1);
    }

    static void thenTheSecondOne() {
        says("of these those whose first one has the most RUNS, then the second one, and so on");
        ChoiceCode x = with(-1000, -1000, 1, 0, 0, 0, 1, 0, 40, 40, 2, 0, 80, 80, 1, 0, 1000, 1000, 1, 0,
            1040, 1040, 2, 0, 1080, 1080, 1, 0);
        due("count(2)", x.count(2), 5);
        dueCluster(x, 0, SPAN_KIND, 0, 1);
        dueCluster(x, 1, BITS_KIND, 1, 2);
        dueCluster(x, 2, SPAN_KIND, 3, 1);
        dueCluster(x, 3, BITS_KIND, 4, 2);
        dueCluster(x, 4, SPAN_KIND, 6, 1);
    }

    static void ofBothKindsItIsBits() {
        says("of a row of two RUNS and more that can be of both KINDS it is BITS");
        ChoiceCode x = with(0, 31, 1, 0, 32, 63, 2, 0);
        x.tables(1, 64);
        dueCluster(x, 0, BITS_KIND, 0, 2);
        x.tables(100, 256);
        dueCluster(x, 0, BITS_KIND, 0, 2);
        ChoiceCode y = with(0, 31, 1, 0, 32, 64, 2, 0);
        y.tables(100, 65);
        dueCluster(y, 0, TABLE_KIND, 0, 2);
    }

    static void sizeAndDensityAreOfTablesAlone() {
        says("DENSITY and SIZE of TABLES: BITS are none");
        ChoiceCode x = with(0, 0, 1, 0, 63, 63, 2, 0);
        x.tables(100, 1);
        dueCluster(x, 0, BITS_KIND, 0, 2);
    }

    static void aClustersWeightIsThatOfItsRuns() {
        says("WEIGHT of a CLUSTER is that of its RUNS");
        ChoiceCode x = new ChoiceCode();
        for (int c = 0; c < 24; c++) {
            due("add", x.add(c, c, 1 + c % 2, 1000), c);
        }
        due("count(2)", x.count(2), 1);
        due("all 24 of the greatest weight", x.cluster(0, 3), 24000);
        due("no weights", with(0, 0, 1, 0, 1, 1, 2, 0).cluster(0, 3), 0);
        ChoiceCode left = with(0, 0, 1, 5, 1, 1, 0, 70, 2, 2, 2, 6);
        due("without the one left out", left.cluster(0, 3), 11);
    }

    // ---- term 3: the tree

    static void noClustersAreALeaf() {
        says("of CLUSTERS i .. j: none: a leaf REST");
        ChoiceCode x = new ChoiceCode();
        for (int way = 0; way <= 1; way++) {
            x.way(way);
            due("questions", x.count(3), 0);
            due("cost()", x.cost(), 0);
            due("lines", x.count(4), 1);
            due("steps", x.count(7), 1);
        }
    }

    static void oneClusterIsALeaf() {
        says("of CLUSTERS i .. j: .. one: a leaf");
        ChoiceCode x = with(0, 0, 1, 1000);
        for (int way = 0; way <= 1; way++) {
            x.way(way);
            due("questions", x.count(3), 0);
            due("cost()", x.cost(), 0);
            due("above it", x.cluster(0, 4), 0);
            due("first line", x.line(0, 0), SAME);
        }
    }

    static void belowBottomOrNot() {
        says("it asks whether the number is below BOTTOM of CLUSTER m");
        ChoiceCode x = with(MIN, -1, 1, 0, 0, MAX, 2, 0);
        dueLine(x, 0, LESS, 0, 2);
        dueGo(x, -1, 1);
        dueGo(x, 0, 2);
        ChoiceCode high = with(MIN, MAX - 1, 1, 0, MAX, MAX, 2, 0);
        dueLine(high, 0, LESS, MAX, 3);
        dueGo(high, MAX - 1, 1);
        dueGo(high, MAX, 2);
        ChoiceCode low = with(MIN, MIN, 1, 0, MIN + 1, MAX, 2, 0);
        dueLine(low, 0, LESS, MIN + 1, 2);
        dueGo(low, MIN, 1);
        dueGo(low, MIN + 1, 2);
    }

    static void balancedAsksInTheMiddle() {
        says("WAY 0 BALANCED: m is (i + j + 1) / 2");
        int[] first = {0, 0, 1, 1, 2, 2, 3, 3, 4};
        for (int n = 2; n < first.length; n++) {
            due("first question of " + n, single(new int[n]).line(0, 1), first[n] * 1000);
        }
        ChoiceCode three = single(0, 0, 0);
        due("above 0 of 3", three.cluster(0, 4), 1);
        due("above 1 of 3", three.cluster(1, 4), 2);
        due("above 2 of 3", three.cluster(2, 4), 2);
        // The second part of five: 2 .. 4 asks for 3; the first part: 0 .. 1 asks for 1.
        ChoiceCode five = single(0, 0, 0, 0, 0);
        int[] above = {2, 2, 2, 3, 3};
        for (int c = 0; c < above.length; c++) {
            due("above " + c + " of 5", five.cluster(c, 4), above[c]);
        }
    }

    static void balancedOverAll24() {
        says("WAY 0 BALANCED over as many CLUSTERS as can be");
        int[] weights = new int[24];
        Arrays.fill(weights, 1000);
        ChoiceCode x = single(weights);
        due("count(2)", x.count(2), 24);
        due("count(3)", x.count(3), 23);
        due("first question", x.line(0, 1), 12000);
        for (int c = 0; c < 24; c++) {
            due("above " + c, x.cluster(c, 4), c % 3 == 0 ? 4 : 5);
        }
        due("cost()", x.cost(), 112 * 1001);
        due("count(7)", x.count(7), 7);
    }

    static void cheapestCountsWeightAnd1() {
        says("the sum over its CLUSTERS of WEIGHT and 1, times how many questions lie above it");
        // With weights of 0 each counts 1: else all trees would be alike, and the least m is 1.
        ChoiceCode x = single(0, 0, 0, 0);
        x.way(1);
        due("first question of four", x.line(0, 1), 2000);
        due("cost() of four", x.cost(), 8);
        ChoiceCode y = single(0, 0);
        y.way(1);
        due("cost() of two", y.cost(), 2);
        // Without the 1 of each the first one alone would cost as two and two do, and be the least m.
        ChoiceCode z = single(3, 2, 1, 2);
        z.way(1);
        due("two and two", z.line(0, 1), 2000);
        due("cost() of two and two", z.cost(), 24);
        ChoiceCode w = single(4, 2, 1, 2);
        w.way(1);
        due("one and three", w.line(0, 1), 1000);
        due("cost() of one and three", w.cost(), 26);
    }

    static void cheapestOfLikeOnesTheLeast() {
        says("m so that COST is least, of like ones the least m (each part likewise)");
        int[] first = {0, 0, 1, 1, 2, 2, 2, 3};
        for (int n = 2; n < first.length; n++) {
            ChoiceCode x = single(new int[n]);
            x.way(1);
            due("first question of " + n + " like ones", x.line(0, 1), first[n] * 1000);
        }
        // Six: 0 .. 1 and 2 .. 5; of these 2 .. 3 and 4 .. 5.
        ChoiceCode six = single(5, 5, 5, 5, 5, 5);
        six.way(1);
        due("second part of six", six.line(1, 1), 4000);
        int[] above = {2, 2, 3, 3, 3, 3};
        for (int c = 0; c < above.length; c++) {
            due("above " + c + " of 6", six.cluster(c, 4), above[c]);
        }
        // Five: 0 .. 1 and 2 .. 4; of these 2 and 3 .. 4, not 2 .. 3 and 4.
        ChoiceCode five = single(9, 9, 9, 9, 9);
        five.way(1);
        int[] aboveFive = {2, 2, 2, 3, 3};
        for (int c = 0; c < aboveFive.length; c++) {
            due("above " + c + " of 5", five.cluster(c, 4), aboveFive[c]);
        }
    }

    static void cheapestJustCheaper() {
        says("m so that COST is least: by one");
        // Three: m = 1 costs the last two twice, m = 2 the first two.
        int[][] rows = {{5, 0, 5, 1}, {5, 0, 6, 2}, {6, 0, 5, 1}, {0, 1000, 1, 2}, {1, 1000, 0, 1}, {0, 0, 0, 1}};
        for (int[] row : rows) {
            ChoiceCode x = single(row[0], row[1], row[2]);
            x.way(1);
            due("first question of " + Arrays.toString(row), x.line(0, 1), row[3] * 1000);
            int least = Math.min(row[0] + 1 + 2 * (row[1] + 1 + row[2] + 1),
                    2 * (row[0] + 1 + row[1] + 1) + row[2] + 1);
            due("cost() of " + Arrays.toString(row), x.cost(), least);
        }
    }

    static void cheapestAsDeepAsCanBe() {
        says("WAY 1 CHEAPEST over all 24, with the greatest WEIGHT at an end");
        int[] weights = new int[24];
        for (int c = 0; c < 24; c++) {
            weights[c] = Math.max(0, (1000 >> c) - 1);
        }
        ChoiceCode x = single(weights);
        x.way(1);
        // 1000, 500, 250, 125, 62, 31, 15 and so on: each question parts the first one off.
        for (int c = 0; c < 4; c++) {
            due("above " + c, x.cluster(c, 4), c + 1);
        }
        due("count(3)", x.count(3), 23);
        due("first question", x.line(0, 1), 1000);
        dueGo(x, 23000, 1 + 23 % 15);
        dueGo(x, 0, 1);
        dueGo(x, 22999, 0);
    }

    // ---- term 4: the code

    static void lessGoesOnBelowB() {
        says("LESS b l: goes on at LINE l, if X is below b; else at the next one.");
        ChoiceCode x = with(10, 20, 1, 0);
        dueLine(x, 0, LESS, 10, 3);
        due("steps(9)", x.steps(9), 2);
        due("steps(10)", x.steps(10), 3);
        due("steps(MIN)", x.steps(MIN), 2);
        ChoiceCode y = with(MIN + 1, MAX, 1, 0);
        dueLine(y, 0, LESS, MIN + 1, 2);
        due("go(MIN)", y.go(MIN), 0);
        due("go(MIN + 1)", y.go(MIN + 1), 1);
        due("go(MAX)", y.go(MAX), 1);
    }

    static void moreGoesOnAboveHigh() {
        says("MORE high l (goes on at l, if X is above high)");
        ChoiceCode x = with(MIN, 20, 1, 0);
        dueLine(x, 0, MORE, 20, 2);
        due("go(20)", x.go(20), 1);
        due("go(21)", x.go(21), 0);
        due("steps(20)", x.steps(20), 2);
        due("steps(21)", x.steps(21), 2);
        ChoiceCode y = with(MIN, MAX - 1, 1, 0);
        dueLine(y, 0, MORE, MAX - 1, 2);
        due("go(MAX - 1)", y.go(MAX - 1), 1);
        due("go(MAX)", y.go(MAX), 0);
        due("go(MIN)", y.go(MIN), 1);
    }

    static void theSecondPartIsLaidOutFirst() {
        says("LESS b l, then the tree of the second part (m .. j), then that of the first one, l being its first LINE");
        dueText("two", with(0, 0, 1, 0, 1000, 1000, 2, 0),
            lines("0 LESS 1000 3", "1 SAME 1000 2", "2 END 0", "3 SAME 0 1", "4 END 0"));
        dueText("three", with(0, 0, 1, 0, 1000, 1000, 2, 0, 2000, 2000, 3, 0),
            lines("0 LESS 1000 6", "1 LESS 2000 4", "2 SAME 2000 3", "3 END 0", "4 SAME 1000 2", "5 END 0",
                "6 SAME 0 1", "7 END 0"));
    }

    static void oneIntIsSame() {
        says("SPAN: if its RUN is one int v: SAME v t (ends with TARGET t, if X is v; else on), END r");
        for (int v : new int[] {MIN, -1, 0, 1, MAX}) {
            ChoiceCode x = with(v, v, 15, 0);
            x.rest(14, 0);
            dueText("of " + v, x, lines("0 SAME " + v + " 15", "1 END 14"));
            due("steps of " + v, x.steps(v), 1);
            dueGo(x, v, 15);
            int other = v == MIN ? MAX : v - 1;
            due("steps beside " + v, x.steps(other), 2);
            dueGo(x, other, 14);
        }
    }

    static void twoIntsAreNotSame() {
        says("SPAN: if its RUN is one int v: .. Else: LESS low l, MORE high l, END t, END r");
        dueText("two ints", with(4, 5, 1, 0), lines("0 LESS 4 3", "1 MORE 5 3", "2 END 1", "3 END 0"));
        dueText("two cases of one int", with(4, 4, 1, 0, 5, 5, 1, 0),
            lines("0 LESS 4 3", "1 MORE 5 3", "2 END 1", "3 END 0"));
        dueText("the least two", with(MIN, MIN + 1, 1, 0), lines("0 MORE -2147483647 2", "1 END 1", "2 END 0"));
        dueText("the greatest two", with(MAX - 1, MAX, 1, 0), lines("0 LESS 2147483646 2", "1 END 1", "2 END 0"));
    }

    static void nothingBelowTheLeastInt() {
        says("unless nothing below BOTTOM can come there: the least int");
        dueText("from the least", with(MIN, 5, 1, 0), lines("0 MORE 5 2", "1 END 1", "2 END 0"));
        dueText("from the one behind it", with(MIN + 1, 5, 1, 0),
            lines("0 LESS -2147483647 3", "1 MORE 5 3", "2 END 1", "3 END 0"));
    }

    static void nothingAboveTheGreatestInt() {
        says("unless nothing above TOP can come there: the greatest int");
        dueText("up to the greatest", with(5, MAX, 1, 0), lines("0 LESS 5 2", "1 END 1", "2 END 0"));
        dueText("up to the one ahead of it", with(5, MAX - 1, 1, 0),
            lines("0 LESS 5 3", "1 MORE 2147483646 3", "2 END 1", "3 END 0"));
    }

    static void nothingElseCanCome() {
        says("then END t; and, if there was a LESS or MORE, END r, which is l");
        dueText("all ints", with(MIN, MAX, 1, 0), lines("0 END 1"));
        dueText("two halves", with(MIN, -1, 1, 0, 0, MAX, 2, 0), lines("0 LESS 0 2", "1 END 2", "2 END 1"));
        dueText("three parts", with(MIN, -1, 1, 0, 0, 99, 2, 0, 100, MAX, 3, 0),
            lines("0 LESS 0 4", "1 LESS 100 3", "2 END 3", "3 END 2", "4 END 1"));
    }

    static void fromTheBottomThatWasAsked() {
        says("What can come to a leaf: ints from the BOTTOM that was last asked on a way on, not below");
        ChoiceCode x = with(0, 9, 1, 0, 100, 199, 2, 0, 300, 399, 3, 0);
        dueText("no LESS but of the first one", x,
            lines("0 LESS 100 8", "1 LESS 300 5", "2 MORE 399 4", "3 END 3", "4 END 0", "5 MORE 199 7", "6 END 2",
                "7 END 0", "8 LESS 0 11", "9 MORE 9 11", "10 END 1", "11 END 0"));
    }

    static void upToRightBelowTheOneAsked() {
        says("up to right below that which was last asked and answered below");
        dueText("right below it", with(0, 99, 1, 0, 100, MAX, 2, 0),
            lines("0 LESS 100 2", "1 END 2", "2 LESS 0 4", "3 END 1", "4 END 0"));
        dueText("one int between", with(0, 98, 1, 0, 100, MAX, 2, 0),
            lines("0 LESS 100 2", "1 END 2", "2 LESS 0 5", "3 MORE 98 5", "4 END 1", "5 END 0"));
        dueText("below the last asked", with(MIN, 99, 1, 0, 100, 199, 2, 0, 200, 299, 3, 0, 300, MAX, 4, 0),
            lines("0 LESS 200 4", "1 LESS 300 3", "2 END 4", "3 END 3", "4 LESS 100 6", "5 END 2", "6 END 1"));
    }

    static void theLastAskedOfTwoAnsweredBelow() {
        says("that which was last asked and answered below: not one that was asked ahead of it");
        // 3 is asked first, then 1, then 2: to cluster 1 come 100 .. 199.
        ChoiceCode x = with(MIN, 9, 1, 0, 100, 199, 2, 0, 200, 299, 3, 0, 300, 399, 4, 1000);
        x.way(1);
        dueText("three questions", x,
            lines("0 LESS 300 4", "1 MORE 399 3", "2 END 4", "3 END 0", "4 LESS 100 8", "5 LESS 200 7", "6 END 3",
                "7 END 2", "8 MORE 9 10", "9 END 1", "10 END 0"));
    }

    static void bitsHaveAnEndAlways() {
        says("BITS: LESS bottom l and MORE top l, unless as told; .. then END r, which is l.");
        dueText("both", with(5, 5, 1, 0, 7, 7, 2, 0),
            lines("0 LESS 5 4", "1 MORE 7 4", "2 BIT 5 0000000000000001 1", "3 BIT 5 0000000000000004 2", "4 END 0"));
        dueText("at the least int", with(MIN, MIN, 1, 0, MIN + 63, MIN + 63, 2, 0),
            lines("0 MORE -2147483585 3", "1 BIT -2147483648 0000000000000001 1",
                "2 BIT -2147483648 8000000000000000 2", "3 END 0"));
        dueText("at the greatest int", with(MAX - 63, MAX - 63, 1, 0, MAX, MAX, 2, 0),
            lines("0 LESS 2147483584 3", "1 BIT 2147483584 0000000000000001 1", "2 BIT 2147483584 8000000000000000 2",
                "3 END 0"));
        dueText("MORE alone", with(MIN, 99, 1, 0, 100, 100, 2, 0, 101, 101, 3, 0, 165, MAX, 4, 0, 102, 164, 0, 0),
            lines("0 LESS 100 7", "1 LESS 165 3", "2 END 4", "3 MORE 101 6", "4 BIT 100 0000000000000001 2",
                "5 BIT 100 0000000000000002 3", "6 END 0", "7 END 1"));
        dueText("neither", with(MIN, 99, 1, 0, 100, 131, 2, 0, 132, 163, 3, 0, 164, MAX, 4, 0),
            lines("0 LESS 100 6", "1 LESS 164 3", "2 END 4", "3 BIT 100 00000000FFFFFFFF 2",
                "4 BIT 100 FFFFFFFF00000000 3", "5 END 0", "6 END 1"));
    }

    static void bitsByWhereATargetComesFirst() {
        says("then for each unlike TARGET, by where it comes first: BIT b s t");
        ChoiceCode x = with(0, 0, 9, 0, 1, 1, 2, 0, 2, 2, 9, 0, 3, 3, 5, 0, 63, 63, 2, 0);
        due("count(2)", x.count(2), 1);
        dueLine(x, 2, BIT, 0, 9);
        dueLine(x, 3, BIT, 0, 2);
        dueLine(x, 4, BIT, 0, 5);
        dueLine(x, 5, END, 0, 0);
        due("lines", x.count(4), 6);
        due("9", x.bits(2), 5);
        due("2", x.bits(3), Long.MIN_VALUE | 2);
        due("5", x.bits(4), 8);
    }

    static void theRowHas64Bits() {
        says("s is a row of 64 bits, bit k for b + k: bits 0, 31, 32 and 63");
        ChoiceCode x = with(-31, -31, 1, 0, 0, 0, 2, 0, 1, 1, 3, 0, 32, 32, 1, 0);
        due("first and last", x.bits(2), Long.MIN_VALUE | 1);
        due("bit 31", x.bits(3), 1L << 31);
        due("bit 32", x.bits(4), 1L << 32);
        int[][] rows = {{-32, 0}, {-31, 1}, {-30, 0}, {-1, 0}, {0, 2}, {1, 3}, {2, 0}, {31, 0}, {32, 1}, {33, 0}};
        for (int[] row : rows) {
            dueGo(x, row[0], row[1]);
        }
    }

    static void aBitOfXBeyondTheRow() {
        says("ends with t, if bit X - b of s is set: 64 behind b is no bit");
        ChoiceCode x = with(0, 0, 1, 0, 1, 1, 2, 0);
        for (int far : new int[] {64, 65, 128, -64, -63, MIN, MIN + 1, MAX, 2, -1}) {
            dueGo(x, far, 0);
        }
        ChoiceCode y = with(MIN, MIN, 1, 0, MIN + 1, MIN + 1, 2, 0);
        for (int far : new int[] {0, 1, 64, -1, MIN + 2, MIN + 64, MAX}) {
            dueGo(y, far, 0);
        }
        dueGo(y, MIN, 1);
        dueGo(y, MIN + 1, 2);
        ChoiceCode z = with(MAX - 1, MAX - 1, 1, 0, MAX, MAX, 2, 0);
        for (int far : new int[] {0, 1, -1, MIN, MIN + 1, MAX - 2, MAX - 65}) {
            dueGo(z, far, 0);
        }
        dueGo(z, MAX - 1, 1);
        dueGo(z, MAX, 2);
    }

    static void aTableHasAnEndIfThereWasALess() {
        says("TABLE: .. then END r, which is l, if there was a LESS or MORE");
        dueText("both", with(5, 5, 1, 0, 6, 6, 2, 0, 8, 8, 3, 0, 9, 9, 4, 0),
            lines("0 LESS 5 3", "1 MORE 9 3", "2 TABLE 5 5 1 2 0 3 4", "3 END 0"));
        int v = MIN, w = MAX - 4;
        dueText("MORE alone", with(v, v, 1, 0, v + 1, v + 1, 2, 0, v + 3, v + 3, 3, 0, v + 4, v + 4, 4, 0),
            lines("0 MORE -2147483644 2", "1 TABLE -2147483648 5 1 2 0 3 4", "2 END 0"));
        dueText("LESS alone", with(w, w, 1, 0, w + 1, w + 1, 2, 0, w + 3, w + 3, 3, 0, w + 4, w + 4, 4, 0),
            lines("0 LESS 2147483643 2", "1 TABLE 2147483643 5 1 2 0 3 4", "2 END 0"));
        ChoiceCode x = with(MIN, 4, 9, 0, 5, 5, 1, 0, 6, 6, 2, 0, 8, 8, 3, 0, 9, 63, 4, 0, 64, 68, 5, 0, 69, MAX, 8, 0);
        String row = "3 TABLE 5 64 1 2 0 3" + " 4".repeat(55) + " 5".repeat(5);
        dueText("neither", x, lines("0 LESS 5 4", "1 LESS 69 3", "2 END 8", row, "4 END 9"));
    }

    static void aTablesNumbers() {
        says("TABLE b n: ends with the TARGET at place X - b of its row of n numbers (r for ints of GAPS)");
        ChoiceCode x = denseFrom(MIN, 64);
        x.rest(13, 0);
        dueLine(x, 1, TABLE, MIN, 64);
        due("first", x.entry(1, 0), 1);
        due("second", x.entry(1, 1), 2);
        due("of the gap", x.entry(1, 2), 13);
        due("the last", x.entry(1, 63), 4);
        dueGo(x, MIN, 1);
        dueGo(x, MIN + 2, 13);
        dueGo(x, MIN + 63, 4);
        dueGo(x, MIN + 64, 13);
        dueGo(x, MAX, 13);
        ChoiceCode y = denseFrom(MAX - 63, 64);
        y.rest(13, 0);
        dueLine(y, 1, TABLE, MAX - 63, 64);
        dueGo(y, MAX, 4);
        dueGo(y, MAX - 1, 3);
        dueGo(y, MAX - 61, 13);
        dueGo(y, MAX - 63, 1);
        dueGo(y, MAX - 64, 13);
        dueGo(y, MIN, 13);
    }

    static void aTableOf256() {
        says("its row of n numbers: 256 at most, and 12 such TABLES");
        ChoiceCode x = new ChoiceCode();
        x.tables(100, 256);
        for (int k = 0; k < 12; k++) {
            due("add", x.add(k * 1000, k * 1000 + 127, 1, 0), 2 * k);
            due("add", x.add(k * 1000 + 128, k * 1000 + 255, 2 + k, 0), 2 * k + 1);
        }
        due("count(2)", x.count(2), 12);
        due("count(5)", x.count(5), 12 * 256);
        // The greatest lies first: four questions, then its MORE, its TABLE.
        int first = 0;
        while (first < 20 && x.line(first, 0) != TABLE) {
            first++;
        }
        dueLine(x, first, TABLE, 11000, 256);
        due("its first", x.entry(first, 0), 1);
        due("its last", x.entry(first, 255), 13);
        due("none behind", x.entry(first, 256), NONE);
        for (int k = 0; k < 12; k++) {
            dueGo(x, k * 1000 - 1, 0);
            dueGo(x, k * 1000, 1);
            dueGo(x, k * 1000 + 127, 1);
            dueGo(x, k * 1000 + 128, 2 + k);
            dueGo(x, k * 1000 + 255, 2 + k);
            dueGo(x, k * 1000 + 256, 0);
        }
    }

    static void noClustersEndAtOnce() {
        says("REST (no CLUSTERS): END r.");
        ChoiceCode x = new ChoiceCode();
        dueText("at first", x, "0 END 0\n");
        x.rest(15, 0);
        dueText("of 15", x, "0 END 15\n");
        x.add(5, 5, 15, 1);
        dueText("all are left out", x, "0 END 15\n");
        due("steps(5)", x.steps(5), 1);
    }

    static void asManyLinesAsCanBe() {
        says("LINES 400 at most come to be.");
        ChoiceCode x = new ChoiceCode();
        for (int c = 0; c < 24; c++) {
            due("add", x.add(c * 1000, c * 1000 + 1, 1 + c % 15, 0), c);
        }
        // 23 questions, a LESS, and of each MORE, END, END.
        int all = 23 + 1 + 24 * 3;
        due("count(4)", x.count(4), all);
        dueLine(x, all - 1, END, 0, 0);
        due("behind the last", x.line(all, 0), UNKNOWN);
        for (int i : new int[] {399, 400, 401, MAX, -1, MIN}) {
            due("line(" + i + ", 0)", x.line(i, 0), UNKNOWN);
            due("bits(" + i + ")", x.bits(i), UNKNOWN);
            due("entry(" + i + ", 0)", x.entry(i, 0), UNKNOWN);
        }
    }

    // ---- term 5: printed

    static void eachLineHasAByte10() {
        says("behind each LINE a byte 10");
        ChoiceCode x = with(4, 4, 1, 0);
        due("print()", x.print(), 19);
        due("the last of line 0", x.out(9), '1');
        due("behind line 0", x.out(10), 10);
        due("the first of line 1", x.out(11), '1');
        due("the last of line 1", x.out(17), '0');
        due("behind line 1", x.out(18), 10);
        due("no more", x.out(19), NONE);
    }

    static void figuresWithLeading0() {
        says("s as a number of 16 figures: with 0 ahead of it");
        dueText("small", with(0, 0, 1, 0, 1, 1, 2, 0),
            lines("0 LESS 0 4", "1 MORE 1 4", "2 BIT 0 0000000000000001 1", "3 BIT 0 0000000000000002 2",
                "4 END 0"));
        dueText("9 and A, F and 0", with(0, 0, 1, 0, 3, 3, 1, 0, 5, 5, 1, 0, 7, 7, 1, 0, 60, 63, 2, 0),
            lines("0 LESS 0 4", "1 MORE 63 4", "2 BIT 0 00000000000000A9 1", "3 BIT 0 F000000000000000 2", "4 END 0"));
    }

    static void everyFigure() {
        says("16 figures 0 .. 9, A .. F: each of them");
        // From the right the figures of 1 are 1 .. 7 in one, 8 .. F in the other.
        dueText("0 to 7", with(4, 4, 1, 0, 9, 9, 1, 0, 12, 13, 1, 0, 18, 18, 1, 0, 20, 20, 1, 0, 22, 22, 1, 0,
            25, 26, 1, 0, 28, 30, 1, 0, 63, 63, 2, 0),
            lines("0 LESS 4 4", "1 MORE 63 4", "2 BIT 4 0000000007654321 1", "3 BIT 4 0800000000000000 2", "4 END 0"));
        dueText("8 to F", with(3, 3, 1, 0, 4, 4, 1, 0, 7, 7, 1, 0, 9, 9, 1, 0, 11, 11, 1, 0, 12, 13, 1, 0, 15, 15, 1, 0,
            18, 19, 1, 0, 20, 20, 1, 0, 22, 23, 1, 0, 25, 27, 1, 0, 28, 31, 1, 0, 0, 0, 2, 0),
            lines("0 LESS 0 4", "1 MORE 31 4", "2 BIT 0 0000000000000001 2", "3 BIT 0 00000000FEDCBA98 1", "4 END 0"));
    }

    static void theLeastAndTheGreatestIntPrinted() {
        says("each LINE is its number, a blank, and LESS b l, MORE b l ..: ints with all their figures");
        dueText("least and greatest", with(MIN + 1, MAX - 1, 10, 0),
            lines("0 LESS -2147483647 3", "1 MORE 2147483646 3", "2 END 10", "3 END 0"));
        dueText("the least", with(MIN, MIN, 9, 0), lines("0 SAME -2147483648 9", "1 END 0"));
        dueText("the greatest", with(MAX, MAX, 9, 0), lines("0 SAME 2147483647 9", "1 END 0"));
        for (int v : new int[] {0, -1, 9, 10, -10, 99, 100, 1000000000, -1000000000, 999999999}) {
            dueText("of " + v, with(v, v, 9, 0), lines("0 SAME " + v + " 9", "1 END 0"));
        }
    }

    static void lineNumbersOfTwoFigures() {
        says("each LINE is its number: 9 and 10");
        dueText("eleven lines", single(0, 0, 0, 0),
            lines("0 LESS 2000 6", "1 LESS 3000 4", "2 SAME 3000 4", "3 END 0", "4 SAME 2000 3", "5 END 0",
                "6 LESS 1000 9", "7 SAME 1000 2", "8 END 0", "9 SAME 0 1", "10 END 0"));
    }
}
