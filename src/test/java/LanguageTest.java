import java.io.IOException;
import java.lang.reflect.Constructor;
import java.lang.reflect.Field;
import java.lang.reflect.Method;
import java.lang.reflect.Modifier;
import java.nio.charset.StandardCharsets;
import java.nio.file.Files;
import java.nio.file.Path;
import java.util.ArrayList;
import java.util.List;
import java.util.Set;
import java.util.TreeSet;
import java.util.regex.Matcher;
import java.util.regex.Pattern;

/** What of ../shared/LANGUAGE.md can be seen in the source and in the compiled classes; run where .ci/run stands. */
public final class LanguageTest {
    private static final String SOURCE = "src/main/java/QueuePlaces.java";
    private static final String DOCUMENT = "../shared/DOC.md";
    private static final String[] BARRED = {
        "throw", "throws", "try", "catch", "finally", "synchronized", "assert", "import", "package", "protected", "native",
        "volatile", "transient", "var", "yield", "sealed", "equals", "hashCode", "toString"};
    private static final Set<String> LIBRARY = Set.of("Math.max", "Math.min", "Math.abs", "Integer.bitCount", "System.arraycopy");

    public static void main(String[] args) throws IOException {
        Check.at("LANGUAGE.md");
        String source = Files.readString(Path.of(SOURCE), StandardCharsets.UTF_8);
        Check.that("signs 1 to 127", source.chars().allMatch(sign -> sign > 0 && sign < 128));
        String code = withoutComments(source);
        words(code);
        library(code);
        lengths(code);
        loops(code);
        List<Class<?>> classes = classes();
        face(classes);
        for (Class<?> each : classes) {
            members(each, publicNames());
        }
        Check.end("LanguageTest");
    }

    private static String withoutComments(String source) {
        return source.replaceAll("(?s)/\\*.*?\\*/", "").replaceAll("//[^\n]*", "");
    }

    private static void words(String code) {
        for (String word : BARRED) {
            Check.that("6: no " + word, !Pattern.compile("\\b" + word + "\\b").matcher(code).find());
        }
        Check.that("2: no lambda, no method reference", !code.contains("->") && !code.contains("::"));
        Check.that("5: no static initialiser", !Pattern.compile("\\bstatic\\s*\\{").matcher(code).find());
        Check.that("2: no anonymous class", !Pattern.compile("new \\w+\\([^;{}]*\\)\\s*\\{").matcher(code).find());
    }

    private static void library(String code) {
        Matcher use = Pattern.compile("\\b([A-Z][a-z]\\w*)\\.(\\w+)").matcher(code);
        Set<String> own = new TreeSet<>();
        for (Class<?> each : classes()) {
            own.add(each.getSimpleName());
        }
        while (use.find()) {
            Check.that("4: " + use.group(), own.contains(use.group(1)) || LIBRARY.contains(use.group()));
        }
    }

    private static void lengths(String code) {
        int opened = 0;
        for (String line : code.split("\n")) {
            boolean opens = line.matches("( {4}| {8})[A-Za-z].*\\) \\{");
            opened = opens ? 1 : opened + 1;
            Check.that("11: a method of more than 60 lines at " + line, !line.matches("( {4}| {8})\\}") || opened <= 61 || isEndOfClass(line));
        }
    }

    private static boolean isEndOfClass(String line) {
        return line.equals("    }");
    }

    /** Each while has a bound beside what it looks for; each for has one. */
    private static void loops(String code) {
        Matcher loop = Pattern.compile("\\b(while|for) \\(([^\n]*)\\) \\{").matcher(code);
        int loops = 0;
        while (loop.find()) {
            loops++;
            Check.that("9: a bound in " + loop.group(), loop.group(2).contains(" < ") || loop.group(2).contains(" <= "));
        }
        Matcher any = Pattern.compile("\\b(while|for) \\(").matcher(code);
        int all = 0;
        while (any.find()) {
            all++;
        }
        Check.due("9: loops looked at", loops, all);
    }

    private static List<Class<?>> classes() {
        List<Class<?>> classes = new ArrayList<>();
        classes.add(QueuePlaces.class);
        classes.addAll(List.of(QueuePlaces.class.getDeclaredClasses()));
        return classes;
    }

    private static Set<String> publicNames() {
        Set<String> names = new TreeSet<>();
        for (Method method : QueuePlaces.class.getDeclaredMethods()) {
            if (Modifier.isPublic(method.getModifiers())) {
                names.add(method.getName());
            }
        }
        return names;
    }

    private static void face(List<Class<?>> classes) throws IOException {
        Check.that("11: twelve classes at most", classes.size() <= 12);
        Set<String> due = new TreeSet<>();
        Matcher told = Pattern.compile("public (int|long) (\\w+)\\(([^)]*)\\);").matcher(Files.readString(Path.of(DOCUMENT)));
        while (told.find()) {
            due.add(told.group(1) + " " + told.group(2) + " " + (told.group(3).isEmpty() ? 0 : told.group(3).split(",").length));
        }
        Set<String> there = new TreeSet<>();
        for (Method method : QueuePlaces.class.getDeclaredMethods()) {
            int modifiers = method.getModifiers();
            Check.that("1: public or private: " + method, Modifier.isPublic(modifiers) || Modifier.isPrivate(modifiers));
            if (Modifier.isPublic(modifiers)) {
                there.add(method.getReturnType() + " " + method.getName() + " " + method.getParameterCount());
            }
        }
        Check.that("1: the document's face: " + due + " and " + there, due.size() == 41 && due.equals(there));
        Check.that("1: final and public", (QueuePlaces.class.getModifiers() & (Modifier.FINAL | Modifier.PUBLIC)) == (Modifier.FINAL | Modifier.PUBLIC));
        Check.due("1: constructors", QueuePlaces.class.getConstructors().length, 1);
        Check.due("1: public constants", QueuePlaces.class.getFields().length, 6);
    }

    private static void members(Class<?> each, Set<String> publicNames) {
        if (each != QueuePlaces.class) {
            Check.that("2: static and private: " + each, (each.getModifiers() & (Modifier.STATIC | Modifier.PRIVATE)) == (Modifier.STATIC | Modifier.PRIVATE));
        }
        int fields = 0;
        for (Field field : each.getDeclaredFields()) {
            boolean isStatic = Modifier.isStatic(field.getModifiers());
            Check.that("5: final: " + field, !isStatic || Modifier.isFinal(field.getModifiers()));
            fields += isStatic ? 0 : 1;
        }
        Check.that("11: twenty fields at most: " + each, fields <= 20);
        for (Method method : each.getDeclaredMethods()) {
            Check.that("11: seven parameters at most: " + method, method.getParameterCount() <= 7);
            boolean isFace = each == QueuePlaces.class && Modifier.isPublic(method.getModifiers());
            Check.that("1: no name of the face: " + method, isFace || !publicNames.contains(method.getName()));
        }
        for (Constructor<?> constructor : each.getDeclaredConstructors()) {
            Check.that("11: seven parameters at most: " + constructor, constructor.getParameterCount() <= 7);
        }
    }
}
