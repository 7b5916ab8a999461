import java.io.IOException;
import java.io.UncheckedIOException;
import java.nio.file.Files;
import java.nio.file.Path;
import java.util.ArrayList;
import java.util.List;
import java.util.regex.Matcher;
import java.util.regex.Pattern;

/** ../shared/DOC.md: its sentences by promise (promise 0 is "Description"), its face and its examples. */
final class Document {
    static final int DESCRIPTION = 0;
    static final int LAST_PROMISE = 29;
    private static final Path PLACE = Path.of("../shared/DOC.md");
    private static final Pattern SENTENCE_END = Pattern.compile("(?<=[.:]|\\.\\))\\s+(?=[A-Z(])");
    private static final Pattern EXAMPLE_START = Pattern.compile("\n +\\d+\\. ");
    private static final Pattern CALL_WITH_ANSWER = Pattern.compile("\\w+\\([^)]*\\) = [^;.\\s]+(?=[;.])");

    private final String text;
    private final List<List<String>> sentences = new ArrayList<>();

    Document() {
        text = read().replace("`java` .util.", "").replace("java.util.", "");
        String plain = text.replace("`", "");
        sentences.add(described(between(plain, "\n## Description\n", "\nExamples:")));
        sentences.get(DESCRIPTION).addAll(described(between(plain, "written in clusters.\n", "\n## ")));
        for (int promise = 1; promise <= LAST_PROMISE; promise++) {
            sentences.add(promised(between(plain, headingOf(promise), "\n## ")));
        }
    }

    List<String> sentencesOf(int promise) {
        return sentences.get(promise);
    }

    /** The lines of the public face, without "public" and the semicolon: the constructor, then the methods. */
    List<String> face() {
        List<String> found = new ArrayList<>();
        for (String line : between(text, "public final class PagedMemory {\n", "\n}").split("\n")) {
            found.add(line.trim().replace("public ", "").replace(";", ""));
        }
        return found;
    }

    /** The signature that stands below a promise's heading. */
    String signatureOf(int promise) {
        return between(between(text, headingOf(promise), "\n## "), "\n\n`", "`");
    }

    /** The calls of each example, written as a run. */
    List<String> examples() {
        List<String> found = new ArrayList<>();
        String chapter = between(text, "\nExamples:", "\n\n");
        Matcher start = EXAMPLE_START.matcher(chapter);
        int from = start.find() ? start.end() : chapter.length();
        while (from < chapter.length()) {
            int to = start.find() ? start.start() : chapter.length();
            found.add(calls(chapter.substring(from, to)));
            from = to == chapter.length() ? to : start.end();
        }
        return found;
    }

    private static String calls(String example) {
        StringBuilder run = new StringBuilder();
        Matcher call = CALL_WITH_ANSWER.matcher(example);
        while (call.find()) {
            run.append(call.group()).append("; ");
        }
        return run.toString();
    }

    private static String headingOf(int promise) {
        return "\n## Promise " + promise + ": ";
    }

    private static String read() {
        try {
            return Files.readString(PLACE);
        } catch (IOException e) {
            throw new UncheckedIOException(e);
        }
    }

    private static String between(String text, String start, String end) {
        int from = text.indexOf(start);
        int to = from < 0 ? -1 : text.indexOf(end, from + start.length());
        if (to < 0) {
            throw new IllegalArgumentException("the document has no part from " + start + " to " + end);
        }
        return text.substring(from + start.length(), to);
    }

    /** Its headings, such as "Getting a frame.", say nothing that could be tested. */
    private static List<String> described(String chapter) {
        List<String> found = new ArrayList<>();
        for (String part : SENTENCE_END.split(chapter.trim())) {
            String sentence = part.replaceAll("\\s+", " ");
            if (sentence.split(" ").length > 5) {
                found.add(sentence);
            }
        }
        return found;
    }

    /** One line is one sentence, but for the heading, the signature and parameters without numbers. */
    private static List<String> promised(String chapter) {
        List<String> found = new ArrayList<>();
        int headingAndSignature = 2;
        for (String part : chapter.split("\n")) {
            String line = part.trim();
            if (line.isEmpty() || line.startsWith("----")) {
                continue;
            }
            if (headingAndSignature > 0) {
                headingAndSignature--;
            } else if (!line.startsWith("- ") || line.matches(".*\\d.*")) {
                found.add(line);
            }
        }
        return found;
    }
}
