import java.io.IOException;
import java.nio.file.Files;
import java.nio.file.Path;
import java.util.ArrayList;
import java.util.LinkedHashMap;
import java.util.List;
import java.util.Map;
import java.util.regex.Matcher;
import java.util.regex.Pattern;

/** DOC.md by its sections, and which words of it have a test. */
final class Document {
    private static final Path FILE = Path.of("../shared/DOC.md");
    private static final Pattern HEADING = Pattern.compile("(?m)^##+ (.*)$");
    private static final List<String> WITHOUT_TESTS = List.of("What it is", "The public face", "Not promised");
    // Titles, declarations, which calls stand together, and what is left of a bracket.
    private static final Pattern NO_PROMISE = Pattern.compile("CONVENTIONS\\.|int \\w+\\(.*\\):|Ahead of the calls .*|\\W*");

    private final Map<String, String> sections = new LinkedHashMap<>();
    private final Map<String, boolean[]> tested = new LinkedHashMap<>();

    Document() {
        String text = read();
        Matcher heading = HEADING.matcher(text);
        String name = "";
        int start = 0;
        while (heading.find()) {
            put(name, text.substring(start, heading.start()));
            name = heading.group(1);
            start = heading.end();
        }
        put(name, text.substring(start));
    }

    private static String read() {
        try {
            return Files.readString(FILE);
        } catch (IOException e) {
            throw new IllegalStateException(e);
        }
    }

    private void put(String name, String text) {
        String plain = text.replace("`", "").replaceAll("\\s+", " ");
        sections.put(name, plain);
        tested.put(name, new boolean[plain.length()]);
    }

    /** Whether the words stand in the section; if so, they have a test from now on. */
    boolean says(String section, String words) {
        int at = sections.getOrDefault(section, "").indexOf(words);
        for (int i = 0; at >= 0 && i < words.length(); i++) {
            tested.get(section)[at + i] = true;
        }
        return at >= 0;
    }

    /** The sentences and parts of sentences without a test. */
    List<String> untested() {
        List<String> found = new ArrayList<>();
        for (String section : sections.keySet()) {
            if (!section.isEmpty() && !WITHOUT_TESTS.contains(section)) {
                addUntested(section, found);
            }
        }
        return found;
    }

    private void addUntested(String section, List<String> found) {
        int start = 0;
        for (String part : sections.get(section).split("(?<=[.;])|(?= Returns )")) {
            boolean has = NO_PROMISE.matcher(part.trim()).matches();
            for (int i = start; i < start + part.length(); i++) {
                has |= tested.get(section)[i];
            }
            if (!has) {
                found.add(section + ": " + part.trim());
            }
            start += part.length();
        }
    }
}
