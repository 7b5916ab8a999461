import java.util.ArrayList;
import java.util.HashSet;
import java.util.List;
import java.util.Set;

/**
 * Runs for the document's boundary cases. Each run names, by its first words, the sentence that it
 * stands for; in the end every sentence must have been named, so that none is passed by.
 */
final class Edges {
    static final String INDEX = "IndexOutOfBoundsException";
    static final String GONE = "NoSuchElementException";
    static final String ILLEGAL = "IllegalArgumentException";
    static final String STATE = "IllegalStateException";
    static final int LEAST = Integer.MIN_VALUE;
    static final int MOST = Integer.MAX_VALUE;
    /** Beside two processes. 268435456 * 16 is 0 as an int: a place reckoned too early would be there. */
    static final int[] NO_PROCESSES = {-1, 2, 9, 10, 268435456, LEAST, MOST};
    static final int[] NO_PAGES = {-1, 16, 17, 32, -16, LEAST, MOST};

    private static final Document DOCUMENT = new Document();
    private static final Set<String> NAMED = new HashSet<>();

    private Edges() {
    }

    /** A sentence of the chapter "Description". */
    static void described(String firstWords, String... calls) {
        promised(Document.DESCRIPTION, firstWords, calls);
    }

    static void promised(int promise, String firstWords, String... calls) {
        Runs.run(name(promise, firstWords), calls);
    }

    /** Marks the sentence as tested; answers how the test is called. */
    static String name(int promise, String firstWords) {
        List<String> found = new ArrayList<>();
        for (String sentence : DOCUMENT.sentencesOf(promise)) {
            if (sentence.startsWith(firstWords)) {
                found.add(sentence);
            }
        }
        Runs.due("how many sentences of promise " + promise + " begin " + firstWords, found.size(), 1);
        for (String sentence : found) {
            NAMED.add(promise + ": " + sentence);
        }
        return promise + ": " + firstWords;
    }

    static void allNamed() {
        for (int promise = Document.DESCRIPTION; promise <= Document.LAST_PROMISE; promise++) {
            for (String sentence : DOCUMENT.sentencesOf(promise)) {
                String name = promise + ": " + sentence;
                Runs.due("a test of " + name, NAMED.contains(name), true);
            }
        }
    }

    /** The calls all throw this exception. */
    static String refused(String exception, String... calls) {
        StringBuilder text = new StringBuilder();
        for (String call : calls) {
            text.append(call).append(" = throws.").append(exception).append("; ");
        }
        return text.toString();
    }

    /** The call throws this exception with each of these numbers at the place of %d. */
    static String refusedWith(String exception, String call, int... numbers) {
        StringBuilder text = new StringBuilder();
        for (int number : numbers) {
            text.append(refused(exception, String.format(call, number)));
        }
        return text.toString();
    }

    /** The call and its answer once for each number from the first to the last, put where %d stands. */
    static String counted(String call, int first, int last) {
        StringBuilder text = new StringBuilder();
        for (int number = first; number <= last; number++) {
            text.append(call.replace("%d", String.valueOf(number))).append("; ");
        }
        return text.toString();
    }
}
