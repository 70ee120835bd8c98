import java.io.IOException;
import java.nio.charset.StandardCharsets;
import java.nio.file.Files;
import java.nio.file.Path;
import java.util.ArrayList;
import java.util.List;
import java.util.stream.Stream;

/** README.md: each line of its example answers what stands behind it, and each file and class is named. */
public final class ReadmeTest {
    private static final Checks checks = new Checks("ReadmeTest");

    public static void main(String[] args) throws IOException {
        List<String> lines = Files.readAllLines(Path.of("README.md"), StandardCharsets.UTF_8);
        testExample(exampleOf(lines));
        testNames(String.join("\n", lines));
        checks.finish();
    }

    private static List<String> exampleOf(List<String> lines) {
        int start = lines.indexOf("```java");
        return new ArrayList<>(lines.subList(start + 1, start + lines.subList(start, lines.size()).indexOf("```")));
    }

    private static void testExample(List<String> example) {
        checks.due("the first line of the example", example.remove(0), "Gravimere land = new Gravimere();");
        Gravimere land = new Gravimere();
        due(example, "land.mass(3, 3, 0, 7);", () -> land.mass(3, 3, 0, 7));
        due(example, "land.water(3, 3, 1);", () -> land.water(3, 3, 1));
        due(example, "land.pull(4, 3);", () -> land.pull(4, 3));
        due(example, "land.pullAnew(4, 3);", () -> land.pullAnew(4, 3));
        due(example, "land.gap(3, 3);", () -> land.gap(3, 3));
        due(example, "land.tide(1000, 12);", () -> land.tide(1000, 12));
        int spring = 0;
        due(example, "int spring = land.needle(Gravimere.SPRING, 3);", () -> land.needle(Gravimere.SPRING, 3));
        due(example, "land.release();", land::release);
        due(example, "land.pass(6);", () -> land.pass(6));
        due(example, "land.read(spring, 3, 3);", () -> land.read(spring, 3, 3));
        due(example, "land.tie(spring);", () -> land.tie(spring));
        due(example, "land.mass(3, 3, 0, 1);", () -> land.mass(3, 3, 0, 1));
        due(example, "land.release();", land::release);
        due(example, "land.trend(0, 1, 3, 3);", () -> land.trend(0, 1, 3, 3));
        testExampleOfHeights(example, land);
        due(example, "land.pull(8, 0);", () -> land.pull(8, 0));
        due(example, "land.pass(0);", () -> land.pass(0));
        due(example, "land.trend(1, 1, 3, 3);", () -> land.trend(1, 1, 3, 3));
        checks.due("lines of the example that are not held", example, List.of());
    }

    private static void testExampleOfHeights(List<String> example, Gravimere land) {
        due(example, "land.benchmark();", land::benchmark);
        due(example, "land.benchmark();", land::benchmark);
        due(example, "land.doubt(1);", () -> land.doubt(1));
        due(example, "land.line(1, 0, 40, 3);", () -> land.line(1, 0, 40, 3));
        due(example, "land.height(1);", () -> land.height(1));
        due(example, "land.doubt(1);", () -> land.doubt(1));
        due(example, "land.doubtAnew(1);", () -> land.doubtAnew(1));
        due(example, "land.line(0, 1, -50, 2);", () -> land.line(0, 1, -50, 2));
        due(example, "land.height(1);", () -> land.height(1));
        due(example, "land.isInConflict(0);", () -> land.isInConflict(0) ? 1 : 0);
    }

    /** The next line of the example must be this one, and the call must answer what it tells. */
    private static void due(List<String> example, String line, Checks.Call call) {
        String next = example.isEmpty() ? "" : example.remove(0);
        String[] parts = (next + " //").split("//");
        checks.due("the line of the example", parts[0].strip(), line);
        String told = parts[1].strip().split(":")[0].replace("throws ", "throws.").replaceFirst("^true$", "1");
        checks.due(line, Checks.outcome(call), told);
    }

    private static void testNames(String text) throws IOException {
        for (Class<?> inside : Gravimere.class.getDeclaredClasses()) {
            dueNamed(text, inside.getSimpleName());
        }
        try (Stream<Path> files = Files.list(Path.of("src/test/java"))) {
            files.sorted().forEach(file -> dueNamed(text, file.getFileName().toString().replace(".java", "")));
        }
    }

    private static void dueNamed(String text, String name) {
        checks.due("how README.md names " + name, text.contains("`" + name + "`") ? "named" : "not at all", "named");
    }
}
