/** Promises 1 to 3: a new object, setFrames, setWindow. */
public final class SettingsTest {
    private static final String ILLEGAL = " = throws.IllegalArgumentException; ";
    private static final String STATE = " = throws.IllegalStateException; ";
    private static final String INDEX = " = throws.IndexOutOfBoundsException; ";

    public static void main(String[] args) {
        newObject();
        setFrames();
        setWindow();
        Runs.finish();
    }

    private static void newObject() {
        Runs.run("1: 6 frames, 24 slots and nothing else",
                "freeFrames() = 6; freeSlots() = 24; time() = 0; hand() = 0; swapRate() = 0.0;",
                "count(0) = 0; count(1) = 0; count(2) = 0; count(3) = 0; count(4) = 0; count(5) = 0;",
                "frameState(0) = 0; frameState(5) = 0; latestUse(5) = -1; isReferenced(5) = false;",
                "frameState(6)" + INDEX, "isLive(0)" + INDEX, "mapping(0, 0)" + INDEX,
                "start() = 0; attach(0, 0, 0, 0)" + INDEX,
                "createSegment(1) = 0; attach(0, 0, 0, 0) = 1");
        PagedMemory first = new PagedMemory();
        first.start();
        first.map(0, 0);
        first.write(0, 0, 1);
        PagedMemory second = new PagedMemory();
        Runs.due("1: the frames of another object", second.freeFrames(), 6);
        Runs.due("1: the processes of another object", second.start(), 0);
        Runs.due("1: the pages of another object", second.mapping(0, 0), 0);
    }

    private static void setFrames() {
        Runs.run("2: the number before is answered, the new one holds",
                "setFrames(4) = 6; freeFrames() = 4; frameState(3) = 0; frameState(4)" + INDEX,
                "setFrames(12) = 4; freeFrames() = 12; frameState(11) = 0; frameState(12)" + INDEX,
                "latestUse(11) = -1; isReferenced(11) = false; setFrames(12) = 12; setFrames(6) = 12");
        Runs.run("2: wrong numbers",
                "setFrames(3)" + ILLEGAL, "setFrames(13)" + ILLEGAL, "setFrames(0)" + ILLEGAL,
                "setFrames(-4)" + ILLEGAL, "setFrames(-2147483648)" + ILLEGAL,
                "setFrames(2147483647)" + ILLEGAL, "freeFrames() = 6");
        Runs.run("2: not while a content is in a frame, but a wrong number is told first",
                "start() = 0; map(0, 0) = 1; setFrames(5) = 6; read(0, 0) = 0; setFrames(6)" + STATE,
                "setFrames(5)" + STATE, "setFrames(13)" + ILLEGAL, "unmap(0, 0) = true; setFrames(6) = 5");
        Runs.run("2: the hand goes to frame 0",
                "setFrames(4) = 6; start() = 0;", Runs.maps(0, 0, 4), Runs.writes(0, 0, 1, 2, 3, 4),
                "hand() = 1; setFrames(5)" + STATE, "hand() = 1; exit(0) = 5; hand() = 1;",
                "setFrames(4) = 4; hand() = 0");
        Runs.run("2: contents in slots alone stay",
                "setFrames(4) = 6; start() = 0;", Runs.maps(0, 0, 4), Runs.writes(0, 0, 1, 2, 3, 4),
                "unmap(0, 1) = true; unmap(0, 2) = true; unmap(0, 3) = true; unmap(0, 4) = true;",
                "freeFrames() = 4; slotOf(0, 0) = 0; setFrames(7) = 4; slotOf(0, 0) = 0;",
                "freeSlots() = 23; read(0, 0) = 100; frameOf(0, 0) = 0; freeFrames() = 6");
        Runs.run("2: the clock goes over so many frames",
                "setFrames(5) = 6; start() = 0;", Runs.maps(0, 0, 6), Runs.reads(0, 0, 0, 1, 2, 3, 4),
                "freeFrames() = 0; frameOf(0, 4) = 4;", Runs.reads(0, 0, 5), "frameOf(0, 0) = -1;",
                "frameOf(0, 5) = 0; hand() = 1");
    }

    private static void setWindow() {
        Runs.run("3: the window before is answered",
                "setWindow(0) = 8; setWindow(50) = 0; setWindow(8) = 50; setWindow(8) = 8");
        Runs.run("3: wrong windows",
                "setWindow(-1)" + ILLEGAL, "setWindow(51)" + ILLEGAL, "setWindow(-2147483648)" + ILLEGAL,
                "setWindow(2147483647)" + ILLEGAL, "setWindow(7) = 8");
        Runs.run("3: the working set goes by the window of the moment",
                "start() = 0;", Runs.maps(0, 0, 1), Runs.reads(0, 0, 0, 1, 1, 1), "workingSet(0) = 2;",
                "setWindow(3) = 8; workingSet(0) = 2; setWindow(2) = 3; workingSet(0) = 1;",
                "setWindow(0) = 2; workingSet(0) = 1; setWindow(50) = 0; workingSet(0) = 2");
    }
}
