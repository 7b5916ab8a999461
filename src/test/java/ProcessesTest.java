/** Promises 4, 5, 6 and 11: start, fork, exit, isLive. */
public final class ProcessesTest {
    private static final String GONE = " = throws.NoSuchElementException; ";
    private static final String STATE = " = throws.IllegalStateException; ";
    private static final String INDEX = " = throws.IndexOutOfBoundsException; ";

    public static void main(String[] args) {
        start();
        fork();
        exit();
        isLive();
        Runs.finish();
    }

    private static String starts(int first, int last) {
        StringBuilder calls = new StringBuilder();
        for (int process = first; process <= last; process++) {
            calls.append("start() = " + process + "; ");
        }
        return calls.toString();
    }

    private static void start() {
        Runs.run("4: ten processes, and no more even if one has exited",
                starts(0, 9), "start()" + STATE, "isLive(9) = true; exit(3) = 0; start()" + STATE,
                "isLive(10)" + INDEX);
        Runs.run("4: no page is mapped",
                "start() = 0; mapping(0, 0) = 0; mapping(0, 15) = 0; map(0, 15) = 1; start() = 1;",
                "mapping(1, 15) = 0; mapping(1, 0) = 0; workingSet(1) = 0; time() = 0");
    }

    private static void fork() {
        Runs.run("5: pages are mapped alike and refer to the same contents",
                "createSegment(2) = 0; start() = 0; map(0, 3) = 1; attach(0, 9, 0, 1) = 2;",
                "write(0, 13, 7) = 0; fork(0) = 1; mapping(1, 3) = 1; mapping(1, 9) = 2;",
                "mapping(1, 4) = 0; frameOf(1, 3) = 0; sharersOf(0, 3) = 2; sharersOf(1, 9) = 2;",
                "read(1, 13) = 7; fork(1) = 2; sharersOf(0, 3) = 3; map(1, 0) = 3; mapping(0, 0) = 0;",
                "mapping(2, 0) = 0; start() = 3; time() = 2");
        Runs.run("5: private pages part at a write, of either side",
                "start() = 0; map(0, 1) = 1; write(0, 4, 5) = 0; fork(0) = 1; write(0, 4, 6) = 5;",
                "read(1, 4) = 5; read(0, 4) = 6; frameOf(1, 1) = 0; frameOf(0, 1) = 1; count(2) = 1;",
                "write(1, 4, 8) = 5; count(2) = 1; read(0, 4) = 6; sharersOf(0, 1) = 1;",
                "sharersOf(1, 1) = 1");
        Runs.run("5: shared pages do not part",
                "createSegment(1) = 0; start() = 0; attach(0, 0, 0, 0) = 1; fork(0) = 1;",
                "write(1, 0, 4) = 0; read(0, 0) = 4; count(2) = 0; sharersOf(0, 0) = 2");
        Runs.run("5: wrong inputs, in their order",
                "fork(0)" + INDEX, starts(0, 0), "fork(-1)" + INDEX, "fork(1)" + INDEX,
                "fork(-2147483648)" + INDEX, "fork(2147483647)" + INDEX, "exit(0) = 0; fork(0)" + GONE,
                starts(1, 9), "fork(1)" + STATE, "fork(0)" + GONE, "fork(10)" + INDEX, "isLive(9) = true");
    }

    private static void exit() {
        Runs.run("6: contents vanish that no page and no segment refers to",
                "createSegment(1) = 0; start() = 0; map(0, 0) = 1; map(0, 1) = 2; attach(0, 2, 0, 0) = 3;",
                "write(0, 0, 1) = 0; write(0, 8, 2) = 0; sync() = 2; fork(0) = 1; map(1, 4) = 4;",
                "read(1, 16) = 0; freeFrames() = 3; exit(1) = 1; freeFrames() = 4; frameState(2) = 0;",
                "latestUse(2) = -1; isReferenced(2) = false; freeSlots() = 22; sharersOf(0, 0) = 1;",
                "exit(0) = 2; freeFrames() = 5; frameState(0) = 0; frameState(1) = 1; freeSlots() = 23;",
                "start() = 2; attach(2, 7, 0, 0) = 1; read(2, 28) = 2; frameOf(2, 7) = 1");
        Runs.run("6: the last one with a content takes it along",
                "start() = 0; map(0, 0) = 1; fork(0) = 1; exit(0) = 0; sharersOf(1, 0) = 1;",
                "write(1, 0, 3) = 0; count(2) = 0; exit(1) = 1; freeFrames() = 6");
        Runs.run("6: all pages are unmapped",
                "start() = 0;", Runs.maps(0, 0, 15), "write(0, 60, 1) = 0; exit(0) = 16; mapping(0, 0) = 0;",
                "mapping(0, 15) = 0; frameOf(0, 15) = -1; slotOf(0, 15) = -1; sharersOf(0, 15) = 0;",
                "workingSet(0) = 0; count(4) = 0");
        Runs.run("6: an exited process",
                "createSegment(1) = 0; start() = 0; map(0, 0) = 1; exit(0) = 1; exit(0)" + GONE,
                "map(0, 0)" + GONE, "unmap(0, 0)" + GONE, "attach(0, 0, 0, 0)" + GONE, "read(0, 0)" + GONE,
                "write(0, 0, 1)" + GONE, "fork(0)" + GONE, "time() = 0");
        Runs.run("6: wrong inputs",
                "exit(0)" + INDEX, "exit(-1)" + INDEX, "start() = 0; exit(1)" + INDEX,
                "exit(2147483647)" + INDEX, "exit(-2147483648)" + INDEX, "exit(0) = 0");
    }

    private static void isLive() {
        Runs.run("11: until it exits",
                "isLive(0)" + INDEX, starts(0, 1), "isLive(0) = true; isLive(1) = true; exit(0) = 0;",
                "isLive(0) = false; isLive(1) = true; fork(1) = 2; isLive(2) = true; isLive(3)" + INDEX,
                "isLive(-1)" + INDEX, "isLive(10)" + INDEX, "isLive(2147483647)" + INDEX);
    }
}
