import java.io.IOException;
import java.nio.file.Files;
import java.nio.file.Path;
import java.util.regex.Matcher;
import java.util.regex.Pattern;

/** README.md names each method of the document's face with its arguments, and each constant with its value. */
public final class ReadmeTest {
    private static final Path DOCUMENT = Path.of("..", "shared", "DOC.md");
    private static final Pattern METHOD = Pattern.compile("public int (\\w+)\\((.*)\\);");
    private static final Pattern CONSTANT = Pattern.compile("([A-Z]+) = (-?\\d+)");

    private static final Check CHECK = new Check("ReadmeTest");

    public static void main(String[] args) throws IOException {
        if (!Files.exists(DOCUMENT)) {
            System.out.println("ReadmeTest: there is no " + DOCUMENT + " to compare with");
            return;
        }
        String document = Files.readString(DOCUMENT);
        String page = Files.readString(Path.of("README.md"));
        CHECK.due("methods", methods(document, page), 31);
        CHECK.due("constants", constants(document, page), 6);
        CHECK.finish();
    }

    private static int methods(String document, String page) {
        int seen = 0;
        for (Matcher m = METHOD.matcher(document); m.find(); seen++) {
            String call = m.group(1) + "(" + m.group(2).replace("int ", "") + ")";
            CHECK.isTrue("README.md has a row for " + call, page.contains("\n| `" + call + "` |"));
        }
        return seen;
    }

    private static int constants(String document, String page) {
        int seen = 0;
        for (Matcher m = CONSTANT.matcher(document); m.find(); seen++) {
            String row = "\n| `" + m.group(1) + "` | " + m.group(2) + " |";
            CHECK.isTrue("README.md has a row for " + m.group(), page.contains(row));
        }
        return seen;
    }
}
