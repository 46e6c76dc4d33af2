import java.io.ByteArrayOutputStream;
import java.io.IOException;
import java.io.PrintStream;
import java.nio.charset.StandardCharsets;
import java.nio.file.Files;
import java.nio.file.Path;
import java.util.TreeSet;

/** README.md shows the example as it is, with what it prints, and tells of every test. Runs in the project's root. */
public final class ReadmeTest {
    private static final Path TESTS = Path.of("src", "test", "java");

    public static void main(String[] args) throws IOException {
        String readme = Files.readString(Path.of("README.md"));
        Checks.same("the example", block(readme, "java"), Files.readString(TESTS.resolve("Example.java")));
        Checks.same("what the example prints", block(readme, "text"), printedByExample());
        for (String test : tests()) {
            Checks.same("README.md tells of " + test, readme.contains("`" + test + "`"), true);
        }
        Checks.end();
    }

    /** The first block of that kind. */
    private static String block(String readme, String kind) {
        String opening = "\n```" + kind + "\n";
        int from = readme.indexOf(opening) + opening.length();
        int end = readme.indexOf("```\n", from);
        return readme.contains(opening) && end >= 0 ? readme.substring(from, end) : "no block";
    }

    private static String printedByExample() {
        PrintStream before = System.out;
        ByteArrayOutputStream bytes = new ByteArrayOutputStream();
        System.setOut(new PrintStream(bytes, true, StandardCharsets.ISO_8859_1));
        Example.main(new String[0]);
        System.setOut(before);
        return bytes.toString(StandardCharsets.ISO_8859_1).replace("\r\n", "\n");
    }

    private static TreeSet<String> tests() throws IOException {
        TreeSet<String> names = new TreeSet<>();
        try (var files = Files.list(TESTS)) {
            files.map(file -> file.getFileName().toString()).filter(name -> name.endsWith("Test.java"))
                .forEach(name -> names.add(name.substring(0, name.length() - 5)));
        }
        return names;
    }
}
