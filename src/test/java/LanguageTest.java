import java.io.IOException;
import java.lang.reflect.Constructor;
import java.lang.reflect.Field;
import java.lang.reflect.Method;
import java.lang.reflect.Modifier;
import java.nio.file.Files;
import java.nio.file.Path;
import java.util.HashMap;
import java.util.HashSet;
import java.util.List;
import java.util.Map;
import java.util.Set;
import java.util.TreeSet;
import java.util.regex.Matcher;
import java.util.regex.Pattern;

/** The face of the document, and the rules of LANGUAGE.md that the source or the class shows. */
public final class LanguageTest {
    private static final String FACE = "int add(int,int,int,int) int clash() int drop(int) int rest(int,int) "
        + "int tables(int,int) int way(int) int told(int,int) int count(int) int run(int,int) int cluster(int,int) "
        + "int cost() int line(int,int) long bits(int) int entry(int,int) int go(int) int steps(int) int by(int) "
        + "long spent() int print() int out(int)";

    private static int wrong = 0;

    private static void hold(boolean holds, String what) {
        if (!holds) {
            wrong++;
            System.out.println("not so: " + what);
        }
    }

    public static void main(String[] args) throws IOException {
        face();
        inside();
        source(bare(Files.readString(Path.of("src/main/java/ChoiceCode.java"))));
        System.out.println(wrong == 0 ? "the rules are kept" : wrong + " rules are not kept");
        if (wrong != 0) {
            System.exit(1);
        }
    }

    private static void face() {
        Class<?> type = ChoiceCode.class;
        hold(type.getModifiers() == (Modifier.PUBLIC | Modifier.FINAL), "public final class");
        Set<String> open = new TreeSet<>();
        Set<String> names = new HashSet<>();
        for (Method m : type.getDeclaredMethods()) {
            if (!Modifier.isPrivate(m.getModifiers())) {
                hold(m.getModifiers() == Modifier.PUBLIC, m + " is public");
                open.add(said(m));
                names.add(m.getName());
            }
        }
        hold(open.equals(new TreeSet<>(List.of(FACE.split(" (?=int |long )")))), "the methods are those of the face: " + open);
        for (Class<?> owner : all()) {
            for (Method m : owner.getDeclaredMethods()) {
                boolean shared = names.contains(m.getName()) && (owner != type || Modifier.isPrivate(m.getModifiers()));
                hold(!shared, m + " bears no public name");
            }
        }
        Map<String, Integer> constants = new HashMap<>(Map.of("NONE", -1, "UNKNOWN", -101, "OUTSIDE", -102, "STATE", -103,
            "FULL", -104));
        for (Field f : type.getDeclaredFields()) {
            if (!Modifier.isPrivate(f.getModifiers())) {
                hold(constants.remove(f.getName()) != null && f.getType() == int.class, f + " is of the face");
            }
        }
        hold(constants.isEmpty(), "all constants are there, but " + constants);
        hold(ChoiceCode.NONE == -1 && ChoiceCode.UNKNOWN == -101 && ChoiceCode.OUTSIDE == -102 && ChoiceCode.STATE == -103
            && ChoiceCode.FULL == -104, "the constants' numbers");
        Constructor<?>[] made = type.getDeclaredConstructors();
        hold(made.length == 1 && made[0].getModifiers() == Modifier.PUBLIC && made[0].getParameterCount() == 0,
            "one public constructor");
    }

    private static String said(Method m) {
        StringBuilder made = new StringBuilder(m.getReturnType().getName()).append(' ').append(m.getName()).append('(');
        for (Class<?> p : m.getParameterTypes()) {
            made.append(made.charAt(made.length() - 1) == '(' ? "" : ",").append(p.getName());
        }
        return made.append(')').toString();
    }

    private static Set<Class<?>> all() {
        Set<Class<?>> found = new HashSet<>(List.of(ChoiceCode.class.getDeclaredClasses()));
        found.add(ChoiceCode.class);
        return found;
    }

    private static void inside() {
        hold(all().size() <= 12, "twelve classes at most");
        for (Class<?> type : all()) {
            int fields = 0;
            hold(type == ChoiceCode.class || Modifier.isStatic(type.getModifiers()), type + " is static");
            for (Field f : type.getDeclaredFields()) {
                boolean constant = Modifier.isStatic(f.getModifiers());
                hold(!constant || Modifier.isFinal(f.getModifiers()), f + " is final");
                fields += constant ? 0 : 1;
            }
            hold(fields <= 20, type + " has twenty fields at most");
            for (Method m : type.getDeclaredMethods()) {
                hold(m.getParameterCount() <= 7, m + " has seven parameters at most");
                hold(!m.isSynthetic(), m + " is written, not made");
            }
        }
    }

    /** The source without its comments and texts. */
    private static String bare(String source) {
        String code = source.replaceAll("(?s)/\\*.*?\\*/", " ").replaceAll("//[^\n]*", " ");
        return code.replaceAll("\"(\\\\.|[^\"\\\\])*\"", "\"\"").replaceAll("'(\\\\.|[^'\\\\])'", "' '");
    }

    private static void source(String code) {
        for (String word : "throw try catch synchronized assert equals hashCode toString instanceof var native volatile double float"
            .split(" ")) {
            hold(!Pattern.compile("\\b" + word + "\\b").matcher(code).find(), "no word " + word);
        }
        hold(!code.contains("->") && !code.contains("::"), "no arrow and no method reference");
        hold(!code.contains("\nprotected ") && !code.contains("package "), "no package");
        Matcher brought = Pattern.compile("import ([^;]*);").matcher(code);
        while (brought.find()) {
            hold(brought.group(1).equals("java.util.Arrays"), "import " + brought.group(1));
        }
        Matcher arrays = Pattern.compile("\\bArrays\\.(\\w+)").matcher(code);
        while (arrays.find()) {
            hold(List.of("copyOf", "copyOfRange", "fill").contains(arrays.group(1)), "Arrays." + arrays.group(1));
        }
        hold(!code.contains("Exact("), "no function that throws");
        hold(code.chars().allMatch(sign -> sign < 128), "signs below 128");
    }
}
