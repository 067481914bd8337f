import java.io.IOException;
import java.nio.file.Files;
import java.nio.file.Path;
import java.util.ArrayList;
import java.util.LinkedHashMap;
import java.util.List;
import java.util.Map;

/**
 * Compares the tests by sentence with the document: each sentence of the description and of the promises has a test
 * that names it, and no test names words that the document has not.
 */
public final class SentencesTest {
    private static final Path DOCUMENT = Path.of("..", "shared", "DOC.md");
    private static final String FIRST_PLACE = "What it is";

    /** Words that only introduce others, or say what the next ones say again. */
    private static final List<String> WITHOUT_A_CASE = List.of(
            "A simulation of a fieldbus ring",
            "Devices read and write bytes of a frame",
            "counters tell how many devices did something.",
            "There are mailboxes with repetition bits",
            "what later calls answer is free.",
            "The constructor and the methods follow, a promise each",
            "Returns it;",
            "Returns its value;",
            "Returns the message;",
            "Returns the counter or the byte;",
            "Returns the expected counter;",
            "Returns the difference.",
            "Returns a number.",
            "Returns a property of a device.",
            "Returns a property of a map of a device.",
            "Returns a property of the boxes of a device.");

    private static final Check CHECK = new Check("SentencesTest");

    public static void main(String[] args) throws IOException {
        if (!Files.exists(DOCUMENT)) {
            System.out.println("SentencesTest: there is no " + DOCUMENT + " to compare with");
            return;
        }
        nameAll();
        Map<String, List<String>> document = read(Files.readAllLines(DOCUMENT));
        for (String[] named : Edges.NAMED) {
            String all = String.join(" ", document.getOrDefault(named[0], List.of()));
            CHECK.isTrue("the document says in " + named[0] + ": " + named[1], all.contains(named[1]));
        }
        for (Map.Entry<String, List<String>> place : document.entrySet()) {
            for (String sentence : place.getValue()) {
                CHECK.isTrue("a test names, of " + place.getKey() + ": " + sentence, isNamed(place.getKey(), sentence));
            }
        }
        CHECK.finish();
    }

    private static void nameAll() {
        String[] none = {};
        Edges.nameOnly();
        EdgesOfErrorsTest.main(none);
        EdgesOfTextTest.main(none);
        EdgesOfRingTest.main(none);
        EdgesOfMapsTest.main(none);
        EdgesOfFramesTest.main(none);
        EdgesOfDatagramsTest.main(none);
        EdgesOfBoxesTest.main(none);
        EdgesOfClocksTest.main(none);
    }

    private static boolean isNamed(String place, String sentence) {
        for (String[] named : Edges.NAMED) {
            if (named[0].equals(place) && (sentence.contains(named[1]) || named[1].contains(sentence))) {
                return true;
            }
        }
        return WITHOUT_A_CASE.stream().anyMatch(sentence::contains);
    }

    /** The sentences, and the parts of sentences that a semicolon ends, by the place at which they stand. */
    private static Map<String, List<String>> read(List<String> lines) {
        Map<String, List<String>> places = new LinkedHashMap<>();
        List<String> sentences = null;
        StringBuilder paragraph = new StringBuilder();
        for (String line : lines) {
            boolean heading = line.startsWith("#") || line.matches("[A-Z ]+");
            if (heading || line.isBlank() || line.startsWith("- ") || line.startsWith("    ")) {
                split(paragraph, sentences);
            }
            if (heading) {
                sentences = placeOf(line, places);
            } else if (sentences != null && !line.startsWith("`") && !line.startsWith("----")) {
                paragraph.append(' ').append(line.startsWith("- ") ? line.substring(2) : line.strip());
            }
        }
        return places;
    }

    /** The sentences below a heading, null if it is none of the description or of a promise. */
    private static List<String> placeOf(String heading, Map<String, List<String>> places) {
        String place = heading.replaceFirst("^#+ (Promise (\\d+):.*)?", "$2");
        place = heading.equals("## " + FIRST_PLACE) ? FIRST_PLACE : place;
        boolean counts = place.matches("[A-Z ]+|\\d+") || place.equals(FIRST_PLACE);
        return counts ? places.computeIfAbsent(place, p -> new ArrayList<>()) : null;
    }

    private static void split(StringBuilder paragraph, List<String> sentences) {
        String all = paragraph.toString().replace("`", "").strip();
        paragraph.setLength(0);
        if (sentences != null && !all.isEmpty()) {
            sentences.addAll(List.of(all.split("(?<=[.;]) ")));
        }
    }
}
