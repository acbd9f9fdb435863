import java.io.IOException;
import java.nio.file.Files;
import java.nio.file.Path;
import java.util.LinkedHashMap;
import java.util.LinkedHashSet;
import java.util.Map;
import java.util.Set;

/** The document's sentences, section by section, and which of them have a test of their own. */
final class Doc {
    private static final Map<String, Set<String>> UNTESTED = new LinkedHashMap<>();
    private static final Map<String, Set<String>> ALL = new LinkedHashMap<>();

    private Doc() {
    }

    static void read(String path) throws IOException {
        String text = Files.readString(Path.of(path));
        for (String section : text.split("(?m)^## ")) {
            int end = section.indexOf('\n');
            String name = section.substring(0, end).split(":")[0];
            ALL.put(name, sentences(section.substring(end)));
            UNTESTED.put(name, new LinkedHashSet<>(ALL.get(name)));
        }
    }

    /** Each line of a section is a paragraph; what stands before a method's text is its face. */
    private static Set<String> sentences(String section) {
        Set<String> found = new LinkedHashSet<>();
        for (String line : section.split("\n")) {
            if (line.startsWith("Ahead of the calls")) {
                continue;
            }
            for (String one : line.replaceFirst("^`[^`]*`: ", "").split("(?<=\\.) (?=[A-Z])")) {
                boolean isHeading = one.indexOf(' ') < 0;
                if (!isHeading) {
                    found.add(one);
                }
            }
        }
        return found;
    }

    /** The checks from here on are of this sentence, which must stand in the document. */
    static void tests(String section, String sentence) {
        Check.part(section + ", \"" + sentence + "\"");
        Check.due("the document says so", true,
            ALL.containsKey(section) && ALL.get(section).contains(sentence));
        if (UNTESTED.containsKey(section)) {
            UNTESTED.get(section).remove(sentence);
        }
    }

    /** No sentence of the sections with such names is left without a test. */
    static void allTested(String sections) {
        Check.part("sentences");
        int seen = 0;
        for (String section : UNTESTED.keySet()) {
            if (section.matches(sections)) {
                seen++;
                for (String sentence : UNTESTED.get(section)) {
                    Check.due(section + ", \"" + sentence + "\"", "a test", "no test");
                }
            }
        }
        Check.due("there are such sections", true, seen > 0);
    }
}
