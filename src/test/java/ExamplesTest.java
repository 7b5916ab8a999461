import java.util.List;

/** The three examples of the document, as they stand there. */
public final class ExamplesTest {
    /** How many calls each of them has: none may be passed by because of how it is written. */
    private static final int[] CALLS = {10, 17, 9};

    public static void main(String[] args) {
        List<String> examples = new Document().examples();
        Runs.due("examples", examples.size(), CALLS.length);
        for (int i = 0; i < examples.size() && i < CALLS.length; i++) {
            Runs.due("the calls of example " + (i + 1), examples.get(i).split("; ").length, CALLS[i]);
            Runs.run("example " + (i + 1), examples.get(i));
        }
        Runs.finish();
    }
}
