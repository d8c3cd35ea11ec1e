import java.io.IOException;
import java.nio.charset.StandardCharsets;
import java.nio.file.Files;
import java.nio.file.Path;
import java.util.ArrayList;
import java.util.BitSet;
import java.util.LinkedHashMap;
import java.util.List;
import java.util.Map;
import java.util.Set;
import java.util.TreeSet;
import java.util.regex.Matcher;
import java.util.regex.Pattern;

/** The document's words by sections ("What it is", "Terms", "Promise 1" ..), and which of them have been given a test. */
final class Document {
    private static final Path PLACE = Path.of("../shared/DOC.md");
    /** What says where a call stands, and asks for nothing. */
    private static final String SIGNPOSTS = "(?m)^Ahead of the calls .*interface says: ---- \\d[^(\n]*|={3,}|```\\w*|^`[^`]*`:";
    private static final String REFUSALS = "\\b(BAD|FULL|STATE|SPENT|NOTHING|BEYOND|UNLIKE|NOUGHT|SIZE)\\b|\\bNONE(?=:)";

    private final Map<String, String> sections = new LinkedHashMap<>();
    private final Map<String, BitSet> tested = new LinkedHashMap<>();
    private final Map<String, String> promises = new LinkedHashMap<>();

    Document() throws IOException {
        for (String part : Files.readString(PLACE, StandardCharsets.UTF_8).split("(?m)^## ")) {
            Matcher heading = Pattern.compile("(?s)(What it is|Terms|Promise \\d+)(?:: )?([^\\n]*)\\n(.*)").matcher(part);
            if (heading.matches()) {
                String words = heading.group(3).strip().replaceAll(SIGNPOSTS, " ").replaceAll("\\s+", " ").strip();
                sections.put(heading.group(1), words);
                tested.put(heading.group(1), new BitSet());
                promises.put(heading.group(2), heading.group(1));
            }
        }
    }

    /** Whether these words stand in the section; they are then tested ones. */
    boolean cite(String section, String words) {
        int at = words(section).indexOf(words);
        boolean stands = at >= 0;
        while (at >= 0) {
            tested.get(section).set(at, at + words.length());
            at = words(section).indexOf(words, at + 1);
        }
        return stands;
    }

    /** The sections whose words are all to be tested. */
    Iterable<String> sections() {
        List<String> all = new ArrayList<>(sections.keySet());
        all.remove("What it is");
        return all;
    }

    int promises() {
        return (int) sections.keySet().stream().filter(section -> section.startsWith("Promise")).count();
    }

    String words(String section) {
        return sections.getOrDefault(section, "");
    }

    /** The refusals that a call's promise names, and NONE where it is an answer. */
    Set<String> refusalsOf(String call) {
        Set<String> named = new TreeSet<>();
        Matcher refusal = Pattern.compile(REFUSALS).matcher(words(promises.getOrDefault(call, "")));
        while (refusal.find()) {
            named.add(refusal.group());
        }
        return named;
    }

    /** The words of a section that no test has cited. */
    List<String> untested(String section) {
        String all = words(section);
        StringBuilder left = new StringBuilder();
        for (int i = 0; i < all.length(); i++) {
            left.append(tested.get(section).get(i) ? ' ' : all.charAt(i));
        }
        List<String> words = new ArrayList<>();
        for (String word : left.toString().split("\\s+")) {
            if (word.matches(".*\\w.*")) {
                words.add(word);
            }
        }
        return words;
    }
}
