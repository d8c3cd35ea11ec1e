import java.io.ByteArrayOutputStream;
import java.io.IOException;
import java.io.PrintStream;
import java.lang.reflect.Field;
import java.lang.reflect.Method;
import java.lang.reflect.Modifier;
import java.net.URL;
import java.net.URLClassLoader;
import java.nio.charset.StandardCharsets;
import java.nio.file.Files;
import java.nio.file.Path;
import java.util.ArrayList;
import java.util.LinkedHashMap;
import java.util.List;
import java.util.Map;
import java.util.Set;
import java.util.TreeSet;
import java.util.regex.Matcher;
import java.util.regex.Pattern;
import javax.tools.JavaCompiler;
import javax.tools.ToolProvider;

/** That README.md says how to use the class and how to run its tests, and that what it says holds; run where .ci/run stands. */
public final class ReadmeTest {
    private static final Path PAGE = Path.of("README.md");
    private static final Path TESTS = Path.of("src/test/java");
    private static final Path MADE = Path.of("build/readme");
    private static final String[] FINDINGS = {"NOTHING", "BEYOND", "UNLIKE", "NOUGHT", "SIZE"};

    private final String use;
    private final String tests;

    private ReadmeTest(String page) {
        use = part(page, "How to use the class");
        tests = part(page, "How to run the tests");
    }

    public static void main(String[] args) throws Exception {
        Check.at("README.md");
        ReadmeTest test = new ReadmeTest(Files.readString(PAGE, StandardCharsets.UTF_8));
        test.program();
        test.constants();
        test.calls();
        test.namesOfTests();
        test.commands();
        Check.end("ReadmeTest");
    }

    /** What stands under a heading, up to the next one of its rank. */
    private static String part(String page, String heading) {
        Matcher found = Pattern.compile("(?ms)^## " + heading + "$(.*?)(?=^## |\\z)").matcher(page);
        boolean there = found.find();
        Check.that("a part " + heading, there && !found.group(1).isBlank());
        return there ? found.group(1) : "";
    }

    /** What stands between fences of a kind. */
    private static List<String> fenced(String text, String kind) {
        List<String> blocks = new ArrayList<>();
        Matcher block = Pattern.compile("(?ms)^```" + kind + "\n(.*?)^```$").matcher(text);
        while (block.find()) {
            blocks.add(block.group(1));
        }
        return blocks;
    }

    private void program() throws Exception {
        List<String> programs = fenced(use, "java");
        List<String> printed = fenced(use, "text");
        Check.that("one program, and what it prints", programs.size() == 1 && printed.size() == 1);
        if (programs.size() == 1 && printed.size() == 1) {
            String prints = outputOf(programs.get(0));
            Check.that("the program prints: " + prints, prints.equals(printed.get(0)));
        }
    }

    private static String outputOf(String program) throws Exception {
        Files.createDirectories(MADE);
        Path source = Files.writeString(MADE.resolve("Shop.java"), program);
        JavaCompiler javac = ToolProvider.getSystemJavaCompiler();
        int answer = javac.run(null, null, null, "-d", MADE.toString(), "-cp", System.getProperty("java.class.path"), source.toString());
        Check.due("javac Shop.java", answer, 0);
        PrintStream console = System.out;
        ByteArrayOutputStream printed = new ByteArrayOutputStream();
        try (URLClassLoader loader = new URLClassLoader(new URL[] {MADE.toUri().toURL()})) {
            System.setOut(new PrintStream(printed, true, StandardCharsets.UTF_8));
            loader.loadClass("Shop").getMethod("main", String[].class).invoke(null, (Object) new String[0]);
        } finally {
            System.setOut(console);
        }
        return printed.toString(StandardCharsets.UTF_8).replace(System.lineSeparator(), "\n");
    }

    private void constants() throws IllegalAccessException {
        for (Field constant : QueuePlaces.class.getFields()) {
            String row = "| `" + constant.getName() + "` " + constant.getInt(null) + " |";
            Check.that("a row " + row, use.contains(row));
        }
        for (int f = 1; f <= FINDINGS.length; f++) {
            Check.that("finding " + FINDINGS[f - 1], use.contains(f + " " + FINDINGS[f - 1]));
        }
    }

    /** Each call of the face has one row, with as many arguments and with the refusals that its promise names. */
    private void calls() throws IOException {
        Map<String, String[]> rows = new LinkedHashMap<>();
        Matcher row = Pattern.compile("(?m)^\\| `(\\w+)\\(([^)]*)\\)` \\|([^|\n]+)\\|([^|\n]+)\\|([^|\n]*)\\|$").matcher(use);
        while (row.find()) {
            String[] cells = {row.group(2), row.group(3), row.group(4), row.group(5)};
            Check.that("one row for " + row.group(1), rows.put(row.group(1), cells) == null);
        }
        Document document = new Document();
        int calls = 0;
        for (Method method : QueuePlaces.class.getDeclaredMethods()) {
            if (Modifier.isPublic(method.getModifiers())) {
                calls++;
                String name = method.getName();
                Check.that("a row for " + name, rows.containsKey(name));
                if (rows.containsKey(name)) {
                    row(document, name, method.getParameterCount(), rows.get(name));
                }
            }
        }
        Check.due("rows of calls", rows.size(), calls);
    }

    private static void row(Document document, String name, int arguments, String[] cells) {
        Check.due("arguments of " + name, cells[0].isEmpty() ? 0 : cells[0].split(",").length, arguments);
        Set<String> due = document.refusalsOf(name);
        boolean none = due.remove("NONE");
        Check.that("refusals of " + name + " are " + due, words(cells[3]).equals(due));
        Check.that("NONE is told of " + name + " where it may be answered", cells[2].contains("NONE") == none);
        Check.that(name + " is told of", !cells[1].isBlank() && !cells[2].isBlank());
    }

    private static Set<String> words(String cell) {
        Set<String> words = new TreeSet<>();
        for (String word : cell.split(",")) {
            if (!word.isBlank()) {
                words.add(word.strip());
            }
        }
        return words;
    }

    private void namesOfTests() throws IOException {
        Set<String> there = new TreeSet<>();
        try (var files = Files.list(TESTS)) {
            for (Path file : files.toList()) {
                if (Files.readString(file, StandardCharsets.UTF_8).contains("void " + "main(")) {
                    there.add(file.getFileName().toString().replace(".java", ""));
                }
            }
        }
        Set<String> named = new TreeSet<>();
        Matcher name = Pattern.compile("(?m)^- `(\\w+)`: ").matcher(tests);
        while (name.find()) {
            named.add(name.group(1));
        }
        Check.that("the tests named, " + named + ", are those there, " + there, !there.isEmpty() && named.equals(there));
    }

    private void commands() {
        List<String> commands = fenced(tests, "sh");
        Check.that("how all tests are run", commands.contains(".ci/run\n"));
        Check.that(".ci/run can be run", Files.isExecutable(Path.of(".ci/run")));
        for (String command : commands) {
            Matcher alone = Pattern.compile("java -cp build/test (\\w+)\n").matcher(command);
            Check.that("a command that is known: " + command, command.equals(".ci/run\n")
                || alone.matches() && Files.isRegularFile(TESTS.resolve(alone.group(1) + ".java")));
        }
        Matcher source = Pattern.compile("src/main/java/\\w+\\.java").matcher(use);
        Check.that("where the class is", source.find() && Files.isRegularFile(Path.of(source.group())));
        Check.that("where the shared tests are", tests.contains("../shared/tests"));
    }
}
