import java.io.IOException;
import java.nio.charset.StandardCharsets;
import java.nio.file.Files;
import java.nio.file.Path;
import java.util.ArrayList;
import java.util.List;
import java.util.regex.Matcher;
import java.util.regex.Pattern;

/**
 * The document's words 'The public face', the line of each promise that tells its call, and what the
 * interface says ahead of the calls, read off the document and held against the class's own lines.
 */
final class FaceInTheDocument {
    private static final String PLACE = "The public face";
    private static final Pattern CALL_OF_A_PROMISE = Pattern.compile("`([^`]*\\([^`]*\\)[^`]*)`: ");
    private static final Pattern AHEAD = Pattern.compile("Ahead of the calls (`[^:]*`) the interface says: (---- .*)\\.");

    private final Checks checks;
    private final Document document;
    private final String source;

    FaceInTheDocument(Checks checks, Document document) throws IOException {
        this.checks = checks;
        this.document = document;
        source = Files.readString(Path.of("src/main/java/Gravimere.java"), StandardCharsets.UTF_8);
    }

    void test() {
        testEachLineOfTheFace();
        testNothingElseIsPublic();
        testEachPromiseTellsItsCall();
        testWhatIsSaidAheadOfTheCalls();
    }

    private List<String> face() {
        List<String> face = new ArrayList<>();
        for (String line : document.textOf(PLACE).split("\n")) {
            if (line.strip().startsWith("public ")) {
                face.add(line.strip());
            }
        }
        return face;
    }

    private void testEachLineOfTheFace() {
        String written = source.replaceAll("\\s+", " ");
        checks.due("how many lines the face has", face().size(), 22);
        for (String line : face()) {
            checks.holds(PLACE, line);
            boolean isMethod = line.endsWith(");") || line.contains(") throws ");
            String due = " " + (isMethod ? line.replace(";", " {") : line) + " ";
            checks.due("how often the class has the line", written.split(Pattern.quote(due), -1).length - 1, 1);
        }
    }

    private void testNothingElseIsPublic() {
        String code = source.replaceAll("(?s)/\\*.*?\\*/", "").replaceAll("//[^\n]*", "");
        checks.due("how often the class says public", code.split("\\bpublic\\b", -1).length - 1, face().size());
    }

    private void testEachPromiseTellsItsCall() {
        List<String> calls = new ArrayList<>(face());
        calls.removeIf(line -> !line.contains("("));
        List<String> told = new ArrayList<>();
        for (String place : document.places()) {
            Matcher call = CALL_OF_A_PROMISE.matcher(document.textOf(place));
            if (place.startsWith("Promise ") && call.find()) {
                checks.holds(place, call.group());
                told.add("public " + call.group(1) + ";");
                checks.due("the call of the promise", told.get(told.size() - 1),
                        told.size() <= calls.size() ? calls.get(told.size() - 1) : "none");
            }
        }
        checks.due("the calls of all promises", told, calls);
    }

    private void testWhatIsSaidAheadOfTheCalls() {
        Matcher ahead = AHEAD.matcher(document.textOf("Exceptions"));
        while (ahead.find()) {
            checks.holds("Exceptions", ahead.group());
            for (String name : ahead.group(1).split(", ")) {
                checks.due("what the class says ahead of " + name, saidAheadOf(name.replace("`", "")), ahead.group(2));
            }
        }
    }

    private String saidAheadOf(String name) {
        String said = "nothing";
        for (String line : source.split("\n")) {
            if (line.strip().startsWith("// ----")) {
                said = line.strip().replace("// ", "");
            }
            if (line.matches("\\s*public \\w+ " + name + "\\(.*")) {
                return said;
            }
        }
        return "nowhere";
    }
}
