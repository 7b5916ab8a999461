import java.io.IOException;
import java.io.UncheckedIOException;
import java.nio.file.Files;
import java.nio.file.Path;
import java.util.ArrayList;
import java.util.List;
import java.util.regex.Pattern;

/** The sentences of ../shared/DOC.md, by promise; promise 0 is its chapter "Description". */
final class Document {
    static final int DESCRIPTION = 0;
    static final int LAST_PROMISE = 29;
    private static final Path PLACE = Path.of("../shared/DOC.md");
    private static final Pattern SENTENCE_END = Pattern.compile("(?<=[.:]|\\.\\))\\s+(?=[A-Z(])");

    private final List<List<String>> sentences = new ArrayList<>();

    Document() {
        String text = read().replace("`java` .util.", "").replace("`", "");
        sentences.add(described(between(text, "\n## Description\n", "\nExamples:")));
        sentences.get(DESCRIPTION).addAll(described(between(text, "written in clusters.\n", "\n## ")));
        for (int promise = 1; promise <= LAST_PROMISE; promise++) {
            sentences.add(promised(between(text, "\n## Promise " + promise + ": ", "\n## ")));
        }
    }

    List<String> sentencesOf(int promise) {
        return sentences.get(promise);
    }

    private static String read() {
        try {
            return Files.readString(PLACE);
        } catch (IOException e) {
            throw new UncheckedIOException(e);
        }
    }

    private static String between(String text, String start, String end) {
        int from = text.indexOf(start);
        int to = from < 0 ? -1 : text.indexOf(end, from + start.length());
        if (to < 0) {
            throw new IllegalArgumentException("the document has no part from " + start + " to " + end);
        }
        return text.substring(from + start.length(), to);
    }

    /** Its headings, such as "Getting a frame.", say nothing that could be tested. */
    private static List<String> described(String chapter) {
        List<String> found = new ArrayList<>();
        for (String part : SENTENCE_END.split(chapter.trim())) {
            String sentence = part.replaceAll("\\s+", " ");
            if (sentence.split(" ").length > 5) {
                found.add(sentence);
            }
        }
        return found;
    }

    /** One line is one sentence, but for the heading, the signature and parameters without numbers. */
    private static List<String> promised(String chapter) {
        List<String> found = new ArrayList<>();
        int headingAndSignature = 2;
        for (String part : chapter.split("\n")) {
            String line = part.trim();
            if (line.isEmpty() || line.startsWith("----")) {
                continue;
            }
            if (headingAndSignature > 0) {
                headingAndSignature--;
            } else if (!line.startsWith("- ") || line.matches(".*\\d.*")) {
                found.add(line);
            }
        }
        return found;
    }
}
