import java.io.IOException;
import java.nio.charset.StandardCharsets;
import java.nio.file.Files;
import java.nio.file.Path;
import java.util.ArrayList;
import java.util.BitSet;
import java.util.LinkedHashMap;
import java.util.List;
import java.util.Map;

/** The words of ../shared/DOC.md, place by place, and which of them a test has quoted so far. */
final class Document {
    private static final Path FILE = Path.of("../shared/DOC.md");
    // What is free can be held by no test.
    private static final List<String> NOT_HELD = List.of("```java", "what later calls answer is free.");

    private final Map<String, StringBuilder> places = new LinkedHashMap<>();
    private final Map<String, BitSet> quoted = new LinkedHashMap<>();

    Document() throws IOException {
        String place = "";
        for (String line : Files.readAllLines(FILE, StandardCharsets.UTF_8)) {
            // The document's own heading 'Tides, needles' bears no sign of a heading.
            if (line.startsWith("#") || line.equals("Tides, needles")) {
                place = line.replaceFirst("^#+ ", "");
            } else {
                places.computeIfAbsent(place, name -> new StringBuilder()).append(line).append('\n');
            }
        }
    }

    /** Marks the words as quoted; answers how often they stand at that place, which should be once. */
    int quote(String place, String words) {
        String text = textOf(place);
        int times = 0;
        for (int at = text.indexOf(words); at >= 0; at = text.indexOf(words, at + 1)) {
            quoted.computeIfAbsent(place, name -> new BitSet()).set(at, at + words.length());
            times++;
        }
        return times;
    }

    List<String> places() {
        return List.copyOf(places.keySet());
    }

    String textOf(String place) {
        return places.getOrDefault(place, new StringBuilder()).toString();
    }

    /** What the document says from its first line up to 'Not promised', but no quotation has. */
    List<String> unquoted() {
        List<String> left = new ArrayList<>();
        places.forEach((place, text) -> {
            if (!place.equals("Not promised")) {
                addUnquoted(place, text.toString(), left);
            }
        });
        return left;
    }

    private void addUnquoted(String place, String text, List<String> left) {
        BitSet marks = quoted.getOrDefault(place, new BitSet());
        StringBuilder rest = new StringBuilder();
        for (int at = 0; at < text.length(); at++) {
            rest.append(marks.get(at) ? '\n' : text.charAt(at));
        }
        for (String line : rest.toString().split("\n")) {
            if (line.matches(".*[A-Za-z0-9].*") && !NOT_HELD.contains(line.strip())) {
                left.add(place + ": " + line);
            }
        }
    }
}
