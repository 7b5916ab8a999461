/** The boundary cases that the document names, sentence by sentence. */
public final class EdgesTest {
    public static void main(String[] args) {
        EdgesOfContents.all();
        EdgesOfAccess.all();
        EdgesOfFrames.all();
        EdgesOfWriteOut.all();
        EdgesOfRefusals.all();
        EdgesOfPages.all();
        EdgesOfCalls.all();
        EdgesOfAnswers.all();
        Edges.allNamed();
        Runs.finish();
    }
}
