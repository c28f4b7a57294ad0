/** Each promise of the document by hand: ordinary inputs, the edges that it names, and wrong inputs. */
public final class PromisesTest {
    private static final int MIN = Integer.MIN_VALUE, MAX = Integer.MAX_VALUE;
    private static final int NONE = -1, UNKNOWN = -101, OUTSIDE = -102, STATE = -103, FULL = -104;
    private static int wrong = 0;
    private static String promise = "";

    private static void due(String call, long got, long want) {
        if (got != want) {
            wrong++;
            System.out.println(promise + ": " + call + " answered " + got + ", due is " + want);
        }
    }

    private static void dueText(String call, ChoiceCode x, String want) {
        due(call + " length", x.print(), want.length());
        StringBuilder got = new StringBuilder();
        for (int i = 0; x.out(i) != NONE; i++) {
            got.append((char) x.out(i));
        }
        if (!got.toString().equals(want)) {
            wrong++;
            System.out.println(promise + ": " + call + " printed\n" + got + "due is\n" + want);
        }
    }

    /** Cases as rows of four numbers: low, high, target, weight. */
    private static ChoiceCode with(int... rows) {
        ChoiceCode x = new ChoiceCode();
        for (int k = 0; k + 3 < rows.length; k += 4) {
            due("add of case " + k / 4, x.add(rows[k], rows[k + 1], rows[k + 2], rows[k + 3]), k / 4);
        }
        return x;
    }

    public static void main(String[] args) {
        newObject();
        add();
        clash();
        drop();
        rest();
        tables();
        way();
        steepWay();
        told();
        count();
        run();
        clusterKinds();
        clusterParting();
        clusterAnswers();
        cost();
        line();
        guards();
        bits();
        entry();
        go();
        steps();
        by();
        spent();
        print();
        out();
        System.out.println(wrong == 0 ? "all promises hold" : wrong + " answers are not as due");
        if (wrong != 0) {
            System.exit(1);
        }
    }

    private static void newObject() {
        promise = "1 new object";
        ChoiceCode x = new ChoiceCode();
        due("out(0)", x.out(0), NONE);
        due("count(6)", x.count(6), 0);
        due("clash()", x.clash(), NONE);
        for (int what = 0; what <= 3; what++) {
            due("count " + what, x.count(what), 0);
        }
        due("count(4)", x.count(4), 1);
        due("count(5)", x.count(5), 0);
        due("count(7)", x.count(7), 1);
        due("cost()", x.cost(), 0);
        due("spent()", x.spent(), 0);
        due("told(0, 0)", x.told(0, 0), UNKNOWN);
        due("run(0, 0)", x.run(0, 0), UNKNOWN);
        due("cluster(0, 0)", x.cluster(0, 0), UNKNOWN);
        due("line(1, 0)", x.line(1, 0), UNKNOWN);
        due("rest's target", x.rest(0, 0), 0);
        due("density", x.tables(40, 64), 40);
        due("way", x.way(0), 0);
        // Four unlike targets are no bits: a table of 64 ints at first, of 65 not.
        due("size 64", with(0, 9, 1, 1, 20, 29, 2, 1, 40, 49, 3, 1, 63, 63, 4, 1).count(2), 1);
        due("not 65", with(0, 9, 1, 1, 20, 29, 2, 1, 40, 49, 3, 1, 64, 64, 4, 1).count(2), 2);
        ChoiceCode y = new ChoiceCode();
        x.add(1, 2, 3, 4);
        x.print();
        due("another's count(0)", y.count(0), 0);
        due("another's count(6)", y.count(6), 0);
    }

    private static void add() {
        promise = "2 add";
        ChoiceCode x = new ChoiceCode();
        due("low above high", x.add(5, 4, 1, 1), OUTSIDE);
        due("target -1", x.add(0, 0, -1, 0), OUTSIDE);
        due("target 16", x.add(0, 0, 16, 0), OUTSIDE);
        due("weight -1", x.add(0, 0, 0, -1), OUTSIDE);
        due("weight 1001", x.add(0, 0, 0, 1001), OUTSIDE);
        due("least and greatest", x.add(MIN, MAX, MIN, MAX), OUTSIDE);
        due("nothing came", x.count(0), 0);
        due("the edges", x.add(0, 0, 15, 1000), 0);
        due("target 0, weight 0", x.add(1, 1, 0, 0), 1);
        due("in common at its low", x.add(-5, 0, 2, 2), STATE);
        due("in common at its high", x.add(1, 9, 2, 2), STATE);
        due("around both", x.add(-9, 9, 2, 2), STATE);
        due("OUTSIDE ahead of STATE", x.add(0, 0, 16, 2), OUTSIDE);
        due("the least int", x.add(MIN, MIN, 2, 2), 2);
        due("the greatest int", x.add(MAX, MAX, 2, 2), 3);
        x.drop(1);
        x.drop(2);
        due("the least free", x.add(10, 10, 1, 1), 1);
        due("the next free", x.add(11, 11, 1, 1), 2);
        due("no more free between", x.add(12, 12, 1, 1), 4);
        for (int c = 5; c < 24; c++) {
            due("case " + c, x.add(20 + c, 20 + c, 1, 1), c);
        }
        due("25th", x.add(90, 90, 1, 1), FULL);
        due("STATE ahead of FULL", x.add(11, 90, 1, 1), STATE);
        due("OUTSIDE ahead of FULL", x.add(90, 90, 1, 1001), OUTSIDE);
        due("count(0)", x.count(0), 24);
        x.drop(23);
        due("free again", x.add(90, 90, 1, 1), 23);
        ChoiceCode asked = new ChoiceCode();
        due("go(7) before", asked.go(7), 0);
        asked.add(7, 7, 3, 1);
        due("go(7) behind", asked.go(7), 3);
        asked.add(7, 8, 4, 1);
        due("go(8) behind a refused one", asked.go(8), 0);
        ChoiceCode all = with(MIN, MAX, 1, 1);
        due("all are taken", all.add(7, 7, 2, 2), STATE);
    }

    private static void clash() {
        promise = "3 clash";
        ChoiceCode x = with(0, 9, 1, 1, 20, 29, 2, 1, 10, 19, 3, 1);
        due("before one", x.clash(), NONE);
        x.add(5, 4, 1, 1);
        due("OUTSIDE is none", x.clash(), NONE);
        x.add(15, 25, 1, 1);
        due("the least of two", x.clash(), 1);
        due("an add that fits", x.add(30, 30, 1, 1), 3);
        due("still", x.clash(), 1);
        x.drop(1);
        due("dropped since", x.clash(), 1);
        x.add(15, 25, 1, 1);
        due("the latest", x.clash(), 2);
        for (int c = 0; c < 24; c++) {
            x.add(100 + c, 100 + c, 1, 1);
        }
        due("FULL is none", x.clash(), 2);
        x.add(3, 3, 1, 1);
        due("STATE of a full one", x.clash(), 0);
    }

    private static void drop() {
        promise = "4 drop";
        ChoiceCode x = with(0, 0, 1, 1, 5, 5, 2, 1, 9, 9, 3, 1);
        due("-1", x.drop(-1), UNKNOWN);
        due("3", x.drop(3), UNKNOWN);
        due("24", x.drop(24), UNKNOWN);
        due("least", x.drop(MIN), UNKNOWN);
        due("greatest", x.drop(MAX), UNKNOWN);
        due("1", x.drop(1), 2);
        due("1 again", x.drop(1), UNKNOWN);
        due("go(5)", x.go(5), 0);
        due("by(5)", x.by(5), 0);
        due("count(1)", x.count(1), 2);
        due("0", x.drop(0), 1);
        due("2", x.drop(2), 0);
        due("none left", x.drop(2), UNKNOWN);
        due("go(9)", x.go(9), 0);
    }

    private static void rest() {
        promise = "5 rest";
        ChoiceCode x = with(0, 5, 1, 10);
        due("-1", x.rest(-1, 0), OUTSIDE);
        due("16", x.rest(16, 0), OUTSIDE);
        due("weight -1", x.rest(0, -1), OUTSIDE);
        due("weight 1001", x.rest(0, 1001), OUTSIDE);
        due("15", x.rest(15, 1000), 0);
        due("go(6)", x.go(6), 15);
        due("spent()", x.spent(), 3 * 10 + 2 * 1000);
        due("7", x.rest(7, 0), 15);
        due("refused", x.rest(16, 1000), OUTSIDE);
        due("spent() with no weight", x.spent(), 30);
        due("1", x.rest(1, 3), 7);
        due("left out", x.count(1), 0);
        due("cost is without its weight", x.cost(), 0);
        due("go(3)", x.go(3), 1);
        due("back", x.rest(0, 0), 1);
        due("there again", x.count(1), 1);
    }

    private static void tables() {
        promise = "6 tables";
        ChoiceCode x = with(0, 0, 1, 0, 2, 2, 2, 0, 4, 4, 3, 0, 6, 6, 4, 0);
        due("0", x.tables(0, 64), OUTSIDE);
        due("101", x.tables(101, 64), OUTSIDE);
        due("size 0", x.tables(40, 0), OUTSIDE);
        due("size 257", x.tables(40, 257), OUTSIDE);
        due("a table", x.cluster(0, 0), 2);
        due("a hundred", x.tables(100, 256), 40);
        due("no table", x.count(2), 2);
        due("the least", x.tables(1, 1), 100);
        due("refused", x.tables(40, 257), OUTSIDE);
        due("no table by size", x.count(2), 2);
        // Four of seven are in runs: 57.1 in a hundred.
        due("58", x.tables(58, 7), 1);
        due("not dense", x.count(2), 2);
        due("57", x.tables(57, 7), 58);
        due("dense", x.count(2), 1);
        due("size 6", x.tables(57, 6), 57);
        due("too long", x.count(2), 2);
    }

    private static void way() {
        promise = "7 way";
        ChoiceCode x = with(0, 0, 1, 1000, 1000, 1000, 2, 0, 2000, 2000, 3, 0);
        due("-1", x.way(-1), OUTSIDE);
        due("2", x.way(2), OUTSIDE);
        due("0", x.way(0), 0);
        due("balanced asks", x.line(0, 1), 1000);
        due("1", x.way(1), 0);
        due("cheapest asks", x.line(0, 1), 1000);
        due("heavy one is high", x.cluster(0, 4), 1);
        due("refused", x.way(2), OUTSIDE);
        due("1 again", x.way(1), 1);
        due("0 again", x.way(0), 1);
        ChoiceCode y = with(0, 0, 1, 0, 1000, 1000, 2, 0, 2000, 2000, 3, 1000);
        due("balanced", y.line(0, 1), 1000);
        y.way(1);
        due("cheapest", y.line(0, 1), 2000);
        // Of like costs the least question: 1, 2 over three like ones.
        ChoiceCode z = with(0, 0, 1, 5, 1000, 1000, 2, 5, 2000, 2000, 3, 5);
        z.way(1);
        due("the least m", z.line(0, 1), 1000);
        ChoiceCode five = with(0, 0, 1, 0, 1000, 1000, 2, 0, 2000, 2000, 3, 0, 3000, 3000, 4, 0, 4000, 4000, 5, 0);
        due("balanced five", five.line(0, 1), 2000);
        due("balanced, first of all", five.cluster(0, 4), 2);
        due("balanced, last of all", five.cluster(4, 4), 3);
        five.way(1);
        due("cheapest five", five.line(0, 1), 2000);
        due("its second part", five.line(1, 1), 3000);
        due("first of all", five.cluster(0, 4), 2);
        due("last of all", five.cluster(4, 4), 3);
    }

    /** Weights that grow like these bring the deepest tree: each question parts one cluster off. */
    private static void steepWay() {
        promise = "7 way, steep";
        int[] weights = {0, 1, 3, 7, 15, 31, 63, 127, 255, 511, 1000};
        for (int turned = 0; turned <= 1; turned++) {
            ChoiceCode x = new ChoiceCode();
            int n = weights.length;
            for (int k = 0; k < n; k++) {
                x.add(k * 1000, k * 1000 + 1, 1 + k, weights[turned == 0 ? k : n - 1 - k]);
            }
            x.way(1);
            long cost = 0;
            for (int k = 0; k < n; k++) {
                int above = Math.min(n - 1, n - k);
                due("above " + k, x.cluster(turned == 0 ? k : n - 1 - k, 4), above);
                cost += (weights[k] + 1L) * above;
            }
            due("cost()", x.cost(), cost);
        }
    }

    private static void told() {
        promise = "8 told";
        ChoiceCode x = with(MIN, -101, 15, 1000, 3, MAX, 0, 0);
        due("low", x.told(0, 0), MIN);
        due("high", x.told(0, 1), -101);
        due("target", x.told(0, 2), 15);
        due("weight", x.told(0, 3), 1000);
        due("low 1", x.told(1, 0), 3);
        due("high 1", x.told(1, 1), MAX);
        due("target 1", x.told(1, 2), 0);
        due("weight 1", x.told(1, 3), 0);
        due("what 4", x.told(0, 4), OUTSIDE);
        due("what -1", x.told(0, -1), OUTSIDE);
        due("UNKNOWN ahead of OUTSIDE", x.told(2, 4), UNKNOWN);
        due("-1", x.told(-1, 0), UNKNOWN);
        due("24", x.told(24, 0), UNKNOWN);
        x.drop(0);
        due("dropped", x.told(0, 0), UNKNOWN);
    }

    private static void count() {
        promise = "9 count";
        ChoiceCode x = with(0, 0, 1, 1, 1, 1, 1, 1, 3, 3, 2, 1, 5, 5, 3, 1, 7, 7, 4, 1, 9, 9, 0, 1, 1000, 1001, 5, 1);
        due("cases", x.count(0), 7);
        due("runs", x.count(1), 5);
        due("clusters", x.count(2), 2);
        due("questions", x.count(3), 1);
        // LESS, then MORE END END, then LESS MORE TABLE END.
        due("lines", x.count(4), 8);
        due("numbers", x.count(5), 8);
        due("bytes", x.count(6), 0);
        due("steps", x.count(7), 4);
        due("8", x.count(8), OUTSIDE);
        due("-1", x.count(-1), OUTSIDE);
        due("least", x.count(MIN), OUTSIDE);
        due("greatest", x.count(MAX), OUTSIDE);
        int bytes = x.print();
        x.drop(0);
        due("bytes stay", x.count(6), bytes);
        // Only an int in a gap does all of the bits.
        ChoiceCode y = with(0, 0, 1, 1, 2, 2, 2, 1, 3, 3, 3, 1);
        due("steps of a gap", y.count(7), 6);
        due("steps of 1", y.steps(1), 6);
        due("all in one", with(MIN, MAX, 1, 1).count(7), 1);
        due("two halves", with(MIN, -1, 1, 1, 0, MAX, 2, 1).count(7), 2);
    }

    private static void run() {
        promise = "10 run";
        ChoiceCode x = with(16, 20, 2, 7, 5, 9, 1, 3, 10, 15, 1, 4, 22, 25, 2, 1, 21, 21, 0, 9, MAX, MAX, 1, 8, MIN, -4, 1, 1000);
        int[][] rows = {{MIN, -4, 1, 1000}, {5, 15, 1, 7}, {16, 20, 2, 7}, {22, 25, 2, 1}, {MAX, MAX, 1, 8}};
        due("how many", x.count(1), rows.length);
        for (int r = 0; r < rows.length; r++) {
            for (int what = 0; what < 4; what++) {
                due("run(" + r + ", " + what + ")", x.run(r, what), rows[r][what]);
            }
        }
        due("what 4", x.run(0, 4), OUTSIDE);
        due("what -1", x.run(0, -1), OUTSIDE);
        due("5", x.run(5, 0), UNKNOWN);
        due("-1", x.run(-1, 0), UNKNOWN);
        due("UNKNOWN ahead of OUTSIDE", x.run(5, 4), UNKNOWN);
        x.rest(2, 0);
        due("left out are two", x.count(1), 4);
        due("the rest's old target", x.run(2, 2), 0);
        // All targets of a chain in one run, told in no order.
        ChoiceCode y = with(4, 5, 6, 1000, 0, 1, 6, 1000, 2, 3, 6, 1000, 6, 6, 6, 1000);
        due("a chain", y.count(1), 1);
        due("its weight", y.run(0, 3), 4000);
        ChoiceCode z = with(MIN, MIN, 1, 1, MAX, MAX, 1, 1);
        due("the ends do not meet", z.count(1), 2);
    }

    private static void clusterKinds() {
        promise = "11 cluster, kinds";
        due("one run", with(0, 9, 1, 1).cluster(0, 0), 0);
        due("two, 64 ints", with(0, 0, 1, 1, 63, 63, 2, 1).cluster(0, 0), 1);
        due("two, 65 ints", with(0, 0, 1, 1, 64, 64, 2, 1).count(2), 2);
        due("64 ints below 0", with(-63, -63, 1, 1, 0, 0, 2, 1).cluster(0, 0), 1);
        due("the ends of all ints", with(MIN, MIN, 1, 1, MAX, MAX, 2, 1).count(2), 2);
        due("three unlike", with(0, 0, 1, 1, 20, 20, 2, 1, 63, 63, 3, 1).cluster(0, 0), 1);
        due("four unlike, thin", with(0, 0, 1, 1, 20, 20, 2, 1, 40, 40, 3, 1, 63, 63, 4, 1).count(2), 2);
        due("four unlike, dense", with(0, 9, 1, 1, 20, 29, 2, 1, 40, 49, 3, 1, 63, 63, 4, 1).cluster(0, 0), 2);
        due("four runs, three unlike", with(0, 0, 1, 1, 20, 20, 2, 1, 40, 40, 3, 1, 63, 63, 1, 1).cluster(0, 0), 1);
        ChoiceCode wide = with(0, 99, 1, 1, 110, 255, 2, 1);
        due("size 64", wide.count(2), 2);
        wide.tables(40, 256);
        due("size 256", wide.count(2), 1);
        due("a table of two", wide.cluster(0, 0), 2);
        wide.tables(40, 255);
        due("size 255", wide.count(2), 2);
        // 246 of 256: 96.09 in a hundred.
        wide.tables(96, 256);
        due("96", wide.count(2), 1);
        wide.tables(97, 256);
        due("97", wide.count(2), 2);
        // Two in five: 40 in a hundred to the int.
        ChoiceCode even = with(0, 0, 1, 1, 1, 1, 2, 1, 5, 5, 3, 1, 9, 9, 4, 1);
        due("40 of a hundred", even.cluster(0, 0), 2);
        even.tables(41, 64);
        due("41 of a hundred", even.count(2), 2);
    }

    private static void clusterParting() {
        promise = "11 cluster, parting";
        // 0 .. 40 .. 80 .. 120: any two neighbours fit; of two and two the first has two.
        ChoiceCode x = with(0, 0, 1, 1, 40, 40, 2, 1, 80, 80, 1, 1, 120, 120, 2, 1);
        due("fewest", x.count(2), 2);
        due("the first has two", x.cluster(0, 2), 2);
        // 0, 40, 80: one and two, or two and one.
        ChoiceCode y = with(0, 0, 1, 1, 40, 40, 2, 1, 80, 80, 1, 1);
        due("two clusters", y.count(2), 2);
        due("most ahead", y.cluster(0, 2), 2);
        due("one behind", y.cluster(1, 2), 1);
        due("that begins at run", y.cluster(1, 1), 2);
        // The first alone: 40, 80 and 100 are one.
        ChoiceCode z = with(0, 0, 1, 1, 40, 40, 2, 1, 80, 80, 1, 1, 103, 103, 2, 1);
        due("fewest with one ahead or two", z.count(2), 2);
        due("two ahead are more than one", z.cluster(0, 2), 2);
        // A table that becomes thin and then dense again.
        ChoiceCode w = with(0, 0, 1, 1, 1, 1, 2, 1, 9, 9, 3, 1, 10, 10, 4, 1, 12, 19, 5, 1);
        w.tables(60, 64);
        due("all of it", w.count(2), 1);
        due("a table of five", w.cluster(0, 2), 5);
    }

    private static void clusterAnswers() {
        promise = "11 cluster";
        ChoiceCode x = with(0, 0, 1, 10, 2, 2, 2, 20, 100, 200, 3, 30, 300, 300, 4, 400, 301, 301, 5, 500, 303, 303, 6, 600, 304, 304, 7, 700);
        int[][] rows = {{1, 0, 2, 30, 1}, {0, 2, 1, 30, 2}, {2, 3, 4, 2200, 2}};
        due("how many", x.count(2), rows.length);
        x.way(1);
        // The heavy one goes up, the first two go down.
        int[] above = {2, 2, 1};
        for (int c = 0; c < rows.length; c++) {
            for (int what = 0; what < 4; what++) {
                due("cluster(" + c + ", " + what + ")", x.cluster(c, what), rows[c][what]);
            }
            due("above " + c, x.cluster(c, 4), above[c]);
        }
        x.way(0);
        for (int c = 0; c < rows.length; c++) {
            due("balanced above " + c, x.cluster(c, 4), rows[c][4]);
        }
        due("what 5", x.cluster(0, 5), OUTSIDE);
        due("what -1", x.cluster(0, -1), OUTSIDE);
        due("3", x.cluster(3, 0), UNKNOWN);
        due("-1", x.cluster(-1, 0), UNKNOWN);
        due("UNKNOWN ahead of OUTSIDE", x.cluster(3, 5), UNKNOWN);
    }

    private static void cost() {
        promise = "12 cost";
        due("one", with(0, 0, 1, 1000).cost(), 0);
        due("two", with(0, 0, 1, 1000, 1000, 1000, 2, 7).cost(), 1001 + 8);
        ChoiceCode x = with(0, 0, 1, 4, 1000, 1000, 2, 0, 2000, 2000, 3, 9);
        due("balanced three", x.cost(), 5 + 2 * 1 + 2 * 10);
        x.way(1);
        due("cheapest three", x.cost(), 2 * 5 + 2 * 1 + 10);
        x.rest(15, 1000);
        due("the rest's weight is none of it", x.cost(), 2 * 5 + 2 * 1 + 10);
    }

    private static void line() {
        promise = "13 line";
        ChoiceCode x = with(5, 5, 9, 1, 1000, 2000, 2, 1, 3000, 3000, 3, 1, 3001, 3001, 4, 1);
        x.rest(8, 0);
        int[][] rows = {{0, 1000, 9}, {0, 3000, 6}, {1, 3001, 5}, {4, 3000, 3}, {4, 3000, 4}, {3, 8, 0}, {1, 2000, 8},
            {3, 2, 0}, {3, 8, 0}, {2, 5, 9}, {3, 8, 0}};
        due("how many", x.count(4), rows.length);
        for (int i = 0; i < rows.length; i++) {
            for (int what = 0; what < 3; what++) {
                due("line(" + i + ", " + what + ")", x.line(i, what), rows[i][what]);
            }
        }
        due("what 3", x.line(0, 3), OUTSIDE);
        due("what -1", x.line(0, -1), OUTSIDE);
        due("11", x.line(11, 0), UNKNOWN);
        due("-1", x.line(-1, 0), UNKNOWN);
        due("400", x.line(400, 0), UNKNOWN);
        due("UNKNOWN ahead of OUTSIDE", x.line(11, 3), UNKNOWN);
        ChoiceCode y = with(-3, -3, 1, 1, -1, -1, 2, 1, 0, 0, 3, 1, 2, 4, 4, 1);
        due("a table", y.line(2, 0), 5);
        due("its b", y.line(2, 1), -3);
        due("its n", y.line(2, 2), 8);
        ChoiceCode none = new ChoiceCode();
        none.rest(6, 0);
        due("END", none.line(0, 0), 3);
        due("its t", none.line(0, 1), 6);
        due("no more of it", none.line(0, 2), 0);
    }

    private static void guards() {
        promise = "13 line, what can come to a leaf";
        dueText("nothing below", with(MIN, 5, 1, 1), "0 MORE 5 2\n1 END 1\n2 END 0\n");
        dueText("nothing above", with(5, MAX, 1, 1), "0 LESS 5 2\n1 END 1\n2 END 0\n");
        dueText("nothing else", with(MIN, MAX, 1, 1), "0 END 1\n");
        dueText("both", with(5, 6, 1, 1), "0 LESS 5 3\n1 MORE 6 3\n2 END 1\n3 END 0\n");
        dueText("the least alone", with(MIN, MIN, 1, 1), "0 SAME -2147483648 1\n1 END 0\n");
        dueText("SAME where nothing else comes", with(MIN, MIN, 1, 1, MIN + 1, MAX, 2, 1),
            "0 LESS -2147483647 2\n1 END 2\n2 SAME -2147483648 1\n3 END 0\n");
        dueText("a run of two cases is no one int", with(5, 5, 1, 1, 6, 6, 1, 1),
            "0 LESS 5 3\n1 MORE 6 3\n2 END 1\n3 END 0\n");
        dueText("one below the next", with(0, 99, 1, 1, 100, 199, 2, 1),
            "0 LESS 100 4\n1 MORE 199 3\n2 END 2\n3 END 0\n4 LESS 0 6\n5 END 1\n6 END 0\n");
        dueText("one ahead of a gap of one", with(0, 98, 1, 1, 100, 199, 2, 1),
            "0 LESS 100 4\n1 MORE 199 3\n2 END 2\n3 END 0\n4 LESS 0 7\n5 MORE 98 7\n6 END 1\n7 END 0\n");
        dueText("bits with neither", with(MIN, MIN + 9, 1, 1, MIN + 10, MIN + 63, 2, 1, MIN + 64, MAX, 3, 1),
            "0 LESS -2147483584 2\n1 END 3\n2 BIT -2147483648 00000000000003FF 1\n"
            + "3 BIT -2147483648 FFFFFFFFFFFFFC00 2\n4 END 0\n");
        dueText("bits with MORE", with(MIN, MIN, 1, 1, MIN + 1, MIN + 1, 2, 1),
            "0 MORE -2147483647 3\n1 BIT -2147483648 0000000000000001 1\n"
            + "2 BIT -2147483648 0000000000000002 2\n3 END 0\n");
        dueText("a table with neither", with(MIN, MIN, 1, 1, MIN + 1, MIN + 1, 2, 1, MIN + 2, MIN + 2, 3, 1,
            MIN + 3, MIN + 3, 4, 1, MIN + 4, MAX, 5, 1),
            "0 LESS -2147483644 2\n1 END 5\n2 TABLE -2147483648 4 1 2 3 4\n");
        dueText("a table with LESS", with(MAX - 3, MAX - 3, 1, 1, MAX - 2, MAX - 2, 2, 1, MAX - 1, MAX - 1, 3, 1,
            MAX, MAX, 4, 1),
            "0 LESS 2147483644 2\n1 TABLE 2147483644 4 1 2 3 4\n2 END 0\n");
        dueText("a table with MORE", with(0, 9, 15, 1, 100, 100, 1, 1, 102, 102, 2, 1, 103, 103, 3, 1, 104, 104, 4, 1),
            "0 LESS 100 4\n1 MORE 104 3\n2 TABLE 100 5 1 0 2 3 4\n3 END 0\n4 LESS 0 7\n5 MORE 9 7\n6 END 15\n7 END 0\n");
    }

    private static void bits() {
        promise = "14 bits";
        ChoiceCode x = with(0, 0, 1, 1, 63, 63, 2, 1);
        due("a LESS", x.bits(0), 0);
        due("a MORE", x.bits(1), 0);
        due("bit 0", x.bits(2), 1);
        due("bit 63", x.bits(3), Long.MIN_VALUE);
        due("an END", x.bits(4), 0);
        due("5", x.bits(5), UNKNOWN);
        due("-1", x.bits(-1), UNKNOWN);
        due("400", x.bits(400), UNKNOWN);
        ChoiceCode y = with(-10, -9, 9, 1, -7, -7, 3, 1, -6, -4, 9, 1, -2, -2, 1, 1);
        due("9 comes first", y.line(2, 2), 9);
        due("its row", y.bits(2), 0x73);
        due("then 3", y.bits(3), 0x8);
        due("then 1", y.bits(4), 0x100);
        ChoiceCode z = with(0, 31, 1, 1, 32, 63, 2, 1);
        due("low half", z.bits(2), 0xFFFFFFFFL);
        due("high half", z.bits(3), 0xFFFFFFFF00000000L);
        // A number of another kind of line, or of an earlier code, is no row.
        z.drop(0);
        for (int i = 0; i < z.count(4); i++) {
            due("no bits in line " + i, z.bits(i), 0);
        }
        due("of a table", with(0, 0, 1, 1, 1, 1, 2, 1, 2, 2, 3, 1, 3, 3, 4, 1).bits(2), 0);
    }

    private static void entry() {
        promise = "15 entry";
        ChoiceCode x = with(-3, -3, 1, 1, -1, -1, 2, 1, 0, 0, 3, 1, 2, 4, 4, 1);
        x.rest(7, 0);
        int[] row = {1, 7, 2, 3, 7, 4, 4, 4};
        for (int k = 0; k < row.length; k++) {
            due("entry(2, " + k + ")", x.entry(2, k), row[k]);
        }
        due("behind", x.entry(2, 8), NONE);
        due("ahead", x.entry(2, -1), NONE);
        due("greatest", x.entry(2, MAX), NONE);
        due("least", x.entry(2, MIN), NONE);
        due("of a LESS", x.entry(0, 0), NONE);
        due("of an END", x.entry(3, 0), NONE);
        due("4", x.entry(4, 0), UNKNOWN);
        due("-1", x.entry(-1, -1), UNKNOWN);
        ChoiceCode two = with(0, 0, 1, 1, 1, 1, 2, 1, 3, 3, 3, 1, 4, 4, 4, 1,
            100, 100, 5, 1, 101, 101, 6, 1, 102, 102, 8, 1, 104, 104, 9, 1);
        due("numbers of two", two.count(5), 10);
        due("upper table first", two.line(2, 1), 100);
        due("its third", two.entry(2, 2), 8);
        due("its gap", two.entry(2, 3), 0);
        due("its last", two.entry(2, 4), 9);
        due("none of the other's", two.entry(2, 5), NONE);
        due("lower table", two.entry(6, 0), 1);
        due("lower table's last", two.entry(6, 4), 4);
        due("of BITS", with(0, 0, 1, 1, 1, 1, 2, 1).entry(2, 0), NONE);
    }

    private static void go() {
        promise = "16 go";
        ChoiceCode none = new ChoiceCode();
        due("no cases", none.go(MIN), 0);
        none.rest(4, 0);
        due("no cases, 4", none.go(MAX), 4);
        ChoiceCode x = with(MIN, MIN, 1, 1, -5, 5, 2, 1, 1000, 1000, 3, 1, 1002, 1002, 4, 1, 1063, 1063, 3, 1,
            5000, 5001, 5, 1, 5003, 5003, 6, 1, 5004, 5004, 7, 1, 5005, 5006, 8, 1, MAX, MAX, 9, 1);
        x.rest(10, 0);
        int[][] due = {{MIN, 1}, {MIN + 1, 10}, {-6, 10}, {-5, 2}, {5, 2}, {6, 10}, {999, 10}, {1000, 3}, {1001, 10},
            {1002, 4}, {1003, 10}, {1062, 10}, {1063, 3}, {1064, 10}, {4999, 10}, {5000, 5}, {5001, 5}, {5002, 10},
            {5003, 6}, {5004, 7}, {5005, 8}, {5006, 8}, {5007, 10}, {MAX - 1, 10}, {MAX, 9}};
        for (int way = 0; way <= 1; way++) {
            x.way(way);
            for (int[] row : due) {
                due("go(" + row[0] + ") by way " + way, x.go(row[0]), row[1]);
            }
        }
    }

    private static void steps() {
        promise = "17 steps";
        due("no cases", new ChoiceCode().steps(0), 1);
        ChoiceCode x = with(0, 0, 1, 1, 2, 2, 2, 1, 3, 3, 3, 1, 1000, 1000, 4, 1, 2000, 2010, 5, 1);
        // 0 LESS 1000; LESS 2000; MORE 2010; END; END; SAME 1000; END; LESS 0; MORE 3; BIT; BIT; BIT; END
        int[][] due = {{MIN, 3}, {-1, 3}, {0, 4}, {1, 7}, {2, 5}, {3, 6}, {4, 4}, {999, 4}, {1000, 3}, {1001, 4},
            {1999, 4}, {2000, 4}, {2010, 4}, {2011, 4}, {MAX, 4}};
        for (int[] row : due) {
            due("steps(" + row[0] + ")", x.steps(row[0]), row[1]);
        }
        due("the greatest", x.count(7), 7);
        ChoiceCode y = with(0, 0, 1, 1, 1, 1, 2, 1, 3, 3, 3, 1, 4, 4, 4, 1);
        due("of a table", y.steps(4), 3);
        due("of its gap", y.steps(2), 3);
        due("below it", y.steps(-1), 2);
        due("above it", y.steps(5), 3);
    }

    private static void by() {
        promise = "18 by";
        due("no cases", new ChoiceCode().by(3), 0);
        ChoiceCode x = with(MIN, -9, 4, 1, 0, 9, 0, 1, 10, 19, 5, 1, MAX, MAX, 6, 1);
        int[][] due = {{MIN, 4}, {-9, 4}, {-8, 11}, {-1, 11}, {0, 0}, {9, 0}, {10, 5}, {19, 5}, {20, 11}, {MAX - 1, 11},
            {MAX, 6}};
        x.rest(11, 0);
        for (int[] row : due) {
            due("by(" + row[0] + ")", x.by(row[0]), row[1]);
            due("go(" + row[0] + ")", x.go(row[0]), row[1]);
        }
        x.drop(2);
        due("dropped", x.by(15), 11);
    }

    private static void spent() {
        promise = "19 spent";
        ChoiceCode x = with(MIN, -1, 1, 2, 0, 9, 2, 3);
        due("no weight of the rest", x.spent(), 2 * 2 + 3 * 3);
        x.rest(0, 5);
        due("the rest from 10", x.spent(), 2 * 2 + 3 * 3 + 5 * 3);
        x.add(10, 19, 0, 7);
        due("a case that is left out", x.spent(), 2 * 2 + 3 * 3 + 7 * 3 + 5 * 3);
        x.add(20, MAX, 0, 100);
        due("no int is free", x.spent(), 2 * 2 + 3 * 3 + 7 * 3 + 100 * 3);
        x.drop(0);
        // LESS 0; MORE 9; END; END: one question less.
        due("the least int is free", x.spent(), 3 * 3 + 7 * 3 + 100 * 3 + 5 * 2);
        ChoiceCode none = new ChoiceCode();
        none.rest(3, 1000);
        due("the rest alone", none.spent(), 1000);
        ChoiceCode last = with(MIN, MAX - 1, 1, 0);
        last.rest(2, 9);
        due("the greatest int is free", last.spent(), 9 * 2);
    }

    private static void print() {
        promise = "20 print";
        dueText("no cases", new ChoiceCode(), "0 END 0\n");
        ChoiceCode x = with(5, 5, 9, 1, 1000, 2000, 2, 1, 3000, 3000, 3, 1, 3001, 3001, 4, 1);
        x.rest(12, 0);
        dueText("all but tables", x, "0 LESS 1000 9\n1 LESS 3000 6\n2 MORE 3001 5\n3 BIT 3000 0000000000000001 3\n"
            + "4 BIT 3000 0000000000000002 4\n5 END 12\n6 MORE 2000 8\n7 END 2\n8 END 12\n9 SAME 5 9\n10 END 12\n");
        ChoiceCode y = with(-3, -3, 10, 1, -1, -1, 2, 1, 0, 0, 3, 1, 2, 4, 4, 1);
        y.rest(7, 0);
        dueText("a table", y, "0 LESS -3 3\n1 MORE 4 3\n2 TABLE -3 8 10 7 2 3 7 4 4 4\n3 END 7\n");
        ChoiceCode z = with(-10, -9, 9, 1, 3, 40, 15, 1, 50, 53, 9, 1);
        dueText("figures", z, "0 LESS -10 4\n1 MORE 53 4\n2 BIT -10 F000000000000003 9\n"
            + "3 BIT -10 0007FFFFFFFFE000 15\n4 END 0\n");
        dueText("all figures", with(0, 0, 1, 1, 4, 4, 2, 1, 9, 9, 2, 1, 11, 11, 2, 1, 18, 18, 1, 1, 12, 15, 3, 1, 20, 23, 3, 1),
            "0 LESS 0 5\n1 MORE 23 5\n2 BIT 0 0000000000040001 1\n3 BIT 0 0000000000000A10 2\n"
            + "4 BIT 0 0000000000F0F000 3\n5 END 0\n");
        ChoiceCode full = new ChoiceCode();
        full.tables(1, 256);
        for (int k = 0; k < 12; k++) {
            full.add(k * 1000, k * 1000 + 100, 14, 1);
            full.add(k * 1000 + 155, k * 1000 + 255, 15, 1);
        }
        due("numbers of twelve tables", full.count(5), 12 * 256);
        int bytes = full.print();
        due("count(6)", full.count(6), bytes);
        due("the last byte", full.out(bytes - 1), 10);
        due("ahead of it", full.out(bytes - 2), '0');
    }

    private static void out() {
        promise = "21 out";
        ChoiceCode x = with(MIN, 5, 1, 1);
        due("before print", x.out(0), NONE);
        String want = "0 MORE 5 2\n1 END 1\n2 END 0\n";
        dueText("bytes", x, want);
        due("behind", x.out(want.length()), NONE);
        due("-1", x.out(-1), NONE);
        due("greatest", x.out(MAX), NONE);
        due("least", x.out(MIN), NONE);
        x.drop(0);
        due("the out stays", x.out(2), 'M');
        due("count(6) stays", x.count(6), want.length());
        due("print", x.print(), 8);
        due("byte 2", x.out(2), 'E');
        due("no more", x.out(8), NONE);
    }
}
