import java.io.IOException;
import java.lang.reflect.InvocationTargetException;
import java.lang.reflect.Method;
import java.lang.reflect.Modifier;
import java.nio.file.Files;
import java.nio.file.Path;
import java.util.Arrays;
import java.util.regex.Matcher;
import java.util.regex.Pattern;

/** The pieces of code in README.md, run on one object from the first to the last, and its text. */
public final class ReadmeTest {
    private static final Pattern PIECE = Pattern.compile("(?ms)^```(\\w+)\n(.*?)^```$");
    private static final Pattern CALL = Pattern.compile("code\\.(\\w+)\\(([^)]*)\\); +// (-?\\d+|[A-Z]+)(:.*)?");
    private static final String MADE = "ChoiceCode code = new ChoiceCode();";

    private static int wrong = 0;
    private static int calls = 0;
    private static int texts = 0;
    private static ChoiceCode code = null;

    private static void fault(String what) {
        wrong++;
        System.out.println("README.md: " + what);
    }

    public static void main(String[] args) throws ReflectiveOperationException, IOException {
        String page = Files.readString(Path.of("README.md"));
        Matcher pieces = PIECE.matcher(page);
        while (pieces.find()) {
            if (pieces.group(1).equals("java")) {
                for (String row : pieces.group(2).split("\n")) {
                    runRow(row);
                }
            } else {
                texts++;
                holdText(pieces.group(2));
            }
        }
        holdNames(page);
        // A page whose pieces are not found would pass without a call.
        if (calls == 0 || texts != 1) {
            fault(calls + " calls and " + texts + " texts found");
        }
        System.out.println(wrong == 0 ? calls + " calls of README.md answer as it says" : wrong + " faults");
        if (wrong != 0) {
            System.exit(1);
        }
    }

    private static void runRow(String row) throws ReflectiveOperationException {
        if (row.equals(MADE)) {
            code = new ChoiceCode();
            return;
        }
        Matcher call = CALL.matcher(row);
        if (code == null || !call.matches()) {
            fault("not a call with its answer: " + row);
            return;
        }
        calls++;
        long want = answer(call.group(3));
        long got = answerOf(call.group(1), call.group(2));
        if (got != want) {
            fault(row + " answered " + got);
        }
    }

    private static long answer(String word) throws ReflectiveOperationException {
        boolean named = Character.isUpperCase(word.charAt(0));
        return named ? ChoiceCode.class.getField(word).getInt(null) : Long.parseLong(word);
    }

    private static long answerOf(String name, String numbers) throws ReflectiveOperationException {
        String[] words = numbers.isEmpty() ? new String[0] : numbers.split(", ");
        Class<?>[] types = new Class<?>[words.length];
        Arrays.fill(types, int.class);
        Object[] given = new Object[words.length];
        for (int k = 0; k < words.length; k++) {
            given[k] = Integer.parseInt(words[k]);
        }
        Method method = ChoiceCode.class.getMethod(name, types);
        try {
            return ((Number) method.invoke(code, given)).longValue();
        } catch (InvocationTargetException e) {
            fault(name + " threw " + e.getCause());
            return 0;
        }
    }

    private static void holdText(String want) {
        StringBuilder got = new StringBuilder();
        for (int i = 0; code != null && i < code.count(6); i++) {
            got.append((char) code.out(i));
        }
        if (!got.toString().equals(want)) {
            fault("the out is\n" + got + "not\n" + want);
        }
    }

    private static void holdNames(String page) throws ReflectiveOperationException {
        for (Method method : ChoiceCode.class.getDeclaredMethods()) {
            String name = method.getName();
            if (Modifier.isPublic(method.getModifiers())
                && !Pattern.compile("\\b" + name + "\\(").matcher(page).find()) {
                fault("says nothing of " + name);
            }
        }
        for (String name : "NONE UNKNOWN OUTSIDE STATE FULL".split(" ")) {
            if (!Pattern.compile("`" + name + "`.* " + answer(name) + "\\b|`" + name + "`, " + answer(name)).matcher(page).find()) {
                fault("says nothing of " + name + " and its number");
            }
        }
    }
}
