import java.lang.reflect.InvocationTargetException;
import java.lang.reflect.Method;
import java.util.Arrays;
import java.util.Comparator;

/**
 * What the tests of the document's boundaries share. Such a test is a static method without
 * parameters that tells its sentence by says(..); runAll runs all of a class.
 */
abstract class Bounds {
    static final int MIN = Integer.MIN_VALUE, MAX = Integer.MAX_VALUE;
    static final int NONE = -1, UNKNOWN = -101, OUTSIDE = -102, STATE = -103, FULL = -104;
    static final int LESS = 0, MORE = 1, SAME = 2, END = 3, BIT = 4, TABLE = 5;
    static final int SPAN_KIND = 0, BITS_KIND = 1, TABLE_KIND = 2;
    static final int CALLS = 512;

    private static int wrong = 0;
    private static String sentence = "";

    static void runAll(Class<? extends Bounds> of) throws IllegalAccessException {
        Method[] tests = of.getDeclaredMethods();
        Arrays.sort(tests, Comparator.comparing(Method::getName));
        int done = 0;
        for (Method test : tests) {
            if (!test.isSynthetic() && test.getParameterCount() == 0 && test.getReturnType() == void.class) {
                sentence = "";
                runOne(test);
                done++;
            }
        }
        System.out.println(wrong == 0 ? done + " sentences hold" : wrong + " answers are not as due");
        if (wrong != 0) {
            System.exit(1);
        }
    }

    private static void runOne(Method test) throws IllegalAccessException {
        try {
            test.invoke(null);
        } catch (InvocationTargetException e) {
            fault(test.getName() + " threw " + e.getCause());
        }
        if (sentence.isEmpty()) {
            fault(test.getName() + " tells no sentence");
        }
    }

    static void says(String words) {
        sentence = words;
    }

    static void fault(String what) {
        wrong++;
        System.out.println("\"" + sentence + "\": " + what);
    }

    static void due(String call, long got, long want) {
        if (got != want) {
            fault(call + " answered " + got + ", due is " + want);
        }
    }

    static void dueText(String what, ChoiceCode x, String want) {
        due(what + ", print()", x.print(), want.length());
        due(what + ", count(6)", x.count(6), want.length());
        StringBuilder got = new StringBuilder();
        for (int i = 0; i < want.length(); i++) {
            got.append((char) x.out(i));
        }
        if (!got.toString().equals(want)) {
            fault(what + " printed\n" + got + "due is\n" + want);
        }
        due(what + ", behind the last byte", x.out(want.length()), NONE);
    }

    static String lines(String... rows) {
        StringBuilder text = new StringBuilder();
        for (String row : rows) {
            text.append(row).append('\n');
        }
        return text.toString();
    }

    /** Cases as rows of four numbers: low, high, target, weight. */
    static ChoiceCode with(int... rows) {
        ChoiceCode x = new ChoiceCode();
        for (int k = 0; k + 3 < rows.length; k += 4) {
            due("add of case " + k / 4, x.add(rows[k], rows[k + 1], rows[k + 2], rows[k + 3]), k / 4);
        }
        return x;
    }

    /** Single ints, far apart, so that each is a cluster, with these weights. */
    static ChoiceCode single(int... weights) {
        ChoiceCode x = new ChoiceCode();
        for (int k = 0; k < weights.length; k++) {
            due("add of case " + k, x.add(k * 1000, k * 1000, 1 + k % 15, weights[k]), k);
        }
        return x;
    }

    static void dueCluster(ChoiceCode x, int c, int kind, int first, int many) {
        due("kind of cluster " + c, x.cluster(c, 0), kind);
        due("first run of cluster " + c, x.cluster(c, 1), first);
        due("runs of cluster " + c, x.cluster(c, 2), many);
    }

    static void dueRun(ChoiceCode x, int r, int low, int high, int target, int weight) {
        due("low of run " + r, x.run(r, 0), low);
        due("high of run " + r, x.run(r, 1), high);
        due("target of run " + r, x.run(r, 2), target);
        due("weight of run " + r, x.run(r, 3), weight);
    }

    static void dueLine(ChoiceCode x, int i, int what, int first, int second) {
        due("what line " + i + " is", x.line(i, 0), what);
        due("b of line " + i, x.line(i, 1), first);
        due("l of line " + i, x.line(i, 2), second);
    }

    /** What the code ends with, held against the cases alone. */
    static void dueGo(ChoiceCode x, int number, int want) {
        due("go(" + number + ")", x.go(number), want);
        due("by(" + number + ")", x.by(number), want);
    }

    /** Each of one int, far apart, all of one target. */
    static ChoiceCode withAll24() {
        ChoiceCode x = new ChoiceCode();
        for (int c = 0; c < 24; c++) {
            due("case " + c, x.add(c * 100, c * 100, 1, 0), c);
        }
        return x;
    }

    /** Four targets, so that it is no row of bits: as many ints as asked, all but one in runs. */
    static ChoiceCode denseFrom(long low, int ints) {
        int a = (int) low, b = (int) (low + ints - 1);
        return with(a, a, 1, 0, a + 1, a + 1, 2, 0, a + 3, b - 1, 3, 0, b, b, 4, 0);
    }

    /** All 24 cases; a table, bits and spans; each of what was told shows in an answer. */
    static ChoiceCode scene() {
        ChoiceCode x = new ChoiceCode();
        x.add(0, 1, 1, 10);
        x.print();
        int[][] rows = {
            // 20 ints, 8 of them in runs: SIZE and DENSITY just met.
            {5, 6, 2, 0}, {12, 13, 3, 0}, {18, 19, 4, 0},
            // 21 ints: SIZE just missed.
            {100, 104, 1, 1}, {106, 110, 2, 2}, {112, 115, 3, 3}, {118, 120, 4, 4},
            // 20 ints, 7 of them in runs: DENSITY missed.
            {200, 200, 1, 0}, {205, 205, 2, 0}, {210, 212, 3, 0}, {218, 219, 4, 0},
            {1000, 2000, 5, 1000}, {3000, 3000, 6, 5}, {3003, 3003, 7, 6}};
        for (int[] row : rows) {
            x.add(row[0], row[1], row[2], row[3]);
        }
        for (int k = 0; k < 9; k++) {
            x.add(5000 + k, 5000 + k, 8, k);
        }
        x.rest(9, 7);
        x.tables(40, 20);
        x.way(1);
        x.add(2000, 2000, 1, 1);
        return x;
    }
}
