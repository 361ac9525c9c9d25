import java.io.IOException;
import java.nio.charset.StandardCharsets;
import java.nio.file.DirectoryStream;
import java.nio.file.Files;
import java.nio.file.Path;
import java.util.Set;
import java.util.TreeSet;
import java.util.regex.Matcher;
import java.util.regex.Pattern;

/** That every promise has tests of its edges which name it, and that what they quote stands in the document. */
public final class QuotesTest {
    private static final Path DOCUMENT = Path.of("../shared/DOC.md");
    private static final Path TESTS = Path.of("src/test/java");
    private static final int PROMISES = 57;
    private static final Pattern NAMED = Pattern.compile("c\\.promise\\((\\d+), \"((?:[^\"\\\\]|\\\\.)*)\"\\)");

    public static void main(String[] args) throws IOException {
        Check c = new Check("QuotesTest");
        String document = Files.readString(DOCUMENT, StandardCharsets.UTF_8).replaceAll("\\s+", " ");
        Set<Integer> named = new TreeSet<>();
        try (DirectoryStream<Path> files = Files.newDirectoryStream(TESTS, "*.java")) {
            for (Path file : files) {
                Matcher m = NAMED.matcher(Files.readString(file, StandardCharsets.UTF_8));
                while (m.find()) {
                    named.add(Integer.parseInt(m.group(1)));
                    String piece = m.group(2).replaceAll("\\s+", " ");
                    c.due(file.getFileName() + " quotes what the document says: " + piece, document.contains(piece), true);
                }
            }
        }
        for (int promise = 1; promise <= PROMISES; promise++) {
            c.due("promise " + promise + " is named by a test", named.contains(promise), true);
        }
        c.end();
    }
}
