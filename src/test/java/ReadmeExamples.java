import java.io.IOException;
import java.nio.file.Files;
import java.nio.file.Path;
import java.util.regex.Matcher;
import java.util.regex.Pattern;

/** Prints a test made of the examples of README.md, so that the page cannot tell answers that the class does not give. */
public final class ReadmeExamples {
    /** A call that a comment follows, which begins with the answer. */
    private static final Pattern EXAMPLE = Pattern.compile("(.+);\\s+// (-?\\d+|[A-Z]+)(: .*)?");

    public static void main(String[] args) throws IOException {
        StringBuilder blocks = new StringBuilder();
        boolean inside = false;
        for (String line : Files.readAllLines(Path.of("README.md"))) {
            if (line.equals("```java")) {
                inside = true;
                blocks.append("{\n");
            } else if (inside && line.equals("```")) {
                inside = false;
                blocks.append("}\n");
            } else if (inside) {
                blocks.append(statement(line)).append('\n');
            }
        }
        if (blocks.length() == 0) {
            throw new IllegalStateException("README.md has no examples");
        }
        System.out.print("public final class ReadmeExamplesTest {\n"
                + "public static void main(String[] args) {\n"
                + "Check check = new Check(\"ReadmeExamplesTest\");\n" + blocks + "check.finish();\n}\n}\n");
    }

    private static String statement(String line) {
        Matcher example = EXAMPLE.matcher(line);
        if (!example.matches()) {
            if (line.contains("//")) {
                throw new IllegalStateException("an example without an answer: " + line);
            }
            return line;
        }
        String call = example.group(1);
        String answer = example.group(2);
        String want = Character.isLetter(answer.charAt(0)) ? "PassingFrames." + answer : answer;
        return "check.due(\"" + call + "\", " + call + ", " + want + ");";
    }
}
