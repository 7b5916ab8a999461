/** The three examples of the document, as they stand there. */
public final class ExamplesTest {
    public static void main(String[] args) {
        Runs.run("example 1",
                "start() = 0; map(0, 2) = 1; write(0, 8, 5) = 0; fork(0) = 1; sharersOf(0, 2) = 2;",
                "write(1, 9, 6) = 0; count(2) = 1; read(0, 9) = 0; read(1, 8) = 5; sharersOf(0, 2) = 1");
        Runs.run("example 2",
                "setFrames(4) = 6; start() = 0; map(0, 0) = 1; map(0, 1) = 2; map(0, 2) = 3;",
                "map(0, 3) = 4; map(0, 4) = 5; write(0, 0, 1) = 0; write(0, 4, 2) = 0;",
                "write(0, 8, 3) = 0; write(0, 12, 4) = 0; write(0, 16, 5) = 0; slotOf(0, 0) = 0;",
                "slotOf(0, 3) = 3; frameOf(0, 0) = -1; count(5) = 4; hand() = 1");
        Runs.run("example 3",
                "createSegment(2) = 0; start() = 0; start() = 1; attach(0, 0, 0, 1) = 1;",
                "attach(1, 7, 0, 1) = 1; write(0, 3, 9) = 0; read(1, 31) = 9; exit(0) = 0;",
                "read(1, 31) = 9");
        Runs.finish();
    }
}
