/** The clock that frees frames for reads and writes (promises 13 and 14, seen by 17, 22 and 23). */
public final class ClockTest {
    public static void main(String[] args) {
        marksAndWindow();
        dirtyContents();
        oldestFrames();
        evictions();
        Runs.finish();
    }

    private static void marksAndWindow() {
        Runs.run("a mark is removed, and the latest use becomes the present time",
                States.fourReadAndAFifth(0), "isReferenced(0) = true; isReferenced(1) = false; latestUse(0) = 5;",
                "isReferenced(3) = false; latestUse(1) = 5; latestUse(2) = 5; latestUse(3) = 5");
        Runs.run("a clean frame outside the window is freed at once",
                States.fourReadAndAFifth(0), Runs.reads(0, 0, 5), "frameOf(0, 5) = 1; frameOf(0, 1) = -1;",
                "hand() = 2; isReferenced(0) = true; latestUse(0) = 5; latestUse(1) = 6; latestUse(2) = 5");
        Runs.run("as long ago as the window is not outside it",
                States.fourReadAndAFifth(2), Runs.reads(0, 0, 4, 5), "time() = 7; frameOf(0, 5) = 1;",
                "hand() = 2; isReferenced(0) = false; latestUse(0) = 7");
        Runs.run("longer ago than the window is",
                States.fourReadAndAFifth(2), Runs.reads(0, 0, 4, 4, 5), "time() = 8; frameOf(0, 5) = 1;",
                "hand() = 2; isReferenced(0) = true; latestUse(0) = 7");
        Runs.run("the clock passes a marked frame and frees the next",
                States.fourReadAndAFifth(0), Runs.reads(0, 0, 1, 5), "frameOf(0, 1) = 1; frameOf(0, 5) = 2;",
                "frameOf(0, 2) = -1; hand() = 3; isReferenced(1) = false; latestUse(1) = 7;",
                "isReferenced(0) = true; latestUse(0) = 5");
        Runs.run("the hand goes from the last frame to frame 0",
                States.fourReadAndAFifth(0), Runs.reads(0, 0, 5, 6, 0), "frameOf(0, 0) = 3; hand() = 0;",
                Runs.reads(0, 0, 1), "frameOf(0, 1) = 0; hand() = 1; isReferenced(1) = false;",
                "latestUse(1) = 9; isReferenced(3) = false; latestUse(3) = 9");
    }

    /** Every second page, so that each cluster is one content. */
    private static void dirtyContents() {
        String written = "setWindow(0) = 8; setFrames(4) = 6; start() = 0; map(0, 0) = 1; map(0, 2) = 2; "
                + "map(0, 4) = 3; map(0, 6) = 4; map(0, 8) = 5; map(0, 10) = 6; "
                + Runs.writes(0, 0, 2, 4, 6, 8) + "frameOf(0, 0) = -1; slotOf(0, 0) = 0; count(5) = 1; "
                + "frameState(1) = 2; frameState(3) = 2; hand() = 1; ";
        Runs.run("dirty contents outside the window are written out, and are freed when met again",
                written, Runs.writes(0, 10), "slotOf(0, 2) = 1; slotOf(0, 4) = 2; slotOf(0, 6) = 3;",
                "frameOf(0, 2) = -1; frameOf(0, 4) = 2; frameOf(0, 10) = 1; hand() = 2; count(5) = 4;",
                "count(4) = 2; frameState(2) = 1; frameState(3) = 1; frameState(0) = 2; latestUse(2) = 5;",
                "isReferenced(0) = false; latestUse(0) = 6");
        Runs.run("those inside it are not",
                written, "setWindow(1) = 0;", Runs.writes(0, 10), "count(5) = 2; slotOf(0, 2) = 1;",
                "slotOf(0, 4) = -1; frameOf(0, 10) = 1; count(4) = 2");
        Runs.run("a cluster makes clean what the hand meets next",
                "setWindow(0) = 8; setFrames(4) = 6; start() = 0;", Runs.maps(0, 0, 8),
                Runs.writes(0, 0, 2, 3, 6, 8), "count(5) = 1; hand() = 1;", Runs.writes(0, 1),
                "slotOf(0, 2) = 1; slotOf(0, 3) = 2; frameOf(0, 3) = -1; frameOf(0, 1) = 2;",
                "frameOf(0, 2) = 1; hand() = 3; slotOf(0, 6) = -1; count(5) = 3");
        Runs.run("without a slot nothing is written, and a clean frame is looked for",
                States.SLOTS_FULL_AND_FRAMES_DIRTY, "setWindow(0) = 8; unmap(1, 9) = true;",
                "read(0, 0) = 100; frameOf(0, 0) = 1;",
                "read(1, 32) = 108; read(0, 4) = 101; frameOf(0, 1) = 1; frameOf(0, 0) = -1; frameState(0) = 2;",
                "count(5) = 24");
    }

    private static void oldestFrames() {
        String oneDirty = "setWindow(50) = 8; setFrames(4) = 6; start() = 0; " + Runs.maps(0, 0, 10)
                + Runs.writes(0, 0) + Runs.reads(0, 0, 2, 4, 6, 8);
        Runs.run("a clean one goes before a dirty one; of several the smallest number",
                oneDirty, "frameOf(0, 0) = 0; frameOf(0, 2) = -1; frameOf(0, 8) = 1; hand() = 2;",
                "count(5) = 0; latestUse(0) = 5; isReferenced(0) = false");
        Runs.run("the smallest time of latest use",
                oneDirty, Runs.reads(0, 0, 4, 10), "frameOf(0, 6) = -1; frameOf(0, 10) = 3; hand() = 0;",
                "latestUse(2) = 7; latestUse(1) = 7; latestUse(0) = 5; isReferenced(2) = false");
        Runs.run("all dirty: the oldest is written out first, with its cluster",
                "setWindow(50) = 8; setFrames(4) = 6; start() = 0;", Runs.maps(0, 0, 10),
                Runs.writes(0, 4, 0, 5, 9, 2), "slotOf(0, 4) = 0; slotOf(0, 5) = 1; slotOf(0, 0) = -1;",
                "frameOf(0, 4) = -1; frameOf(0, 5) = 2; frameOf(0, 2) = 0; hand() = 1; count(5) = 2;",
                "count(4) = 1; frameState(2) = 1; frameState(1) = 2");
        Runs.run("all dirty, with different times",
                "setWindow(50) = 8; setFrames(4) = 6; start() = 0;", Runs.maps(0, 0, 12),
                Runs.writes(0, 0, 2, 4, 6, 8), "frameOf(0, 8) = 0; hand() = 1; write(0, 16, 1) = 104;",
                "write(0, 33, 1) = 0;", Runs.writes(0, 10),
                "frameOf(0, 2) = -1; slotOf(0, 2) = 1; frameOf(0, 10) = 1; hand() = 2; latestUse(2) = 8;",
                "latestUse(3) = 5; latestUse(0) = 8;", Runs.writes(0, 12),
                "frameOf(0, 6) = -1; slotOf(0, 6) = 2; hand() = 0; frameOf(0, 12) = 3");
    }

    private static void evictions() {
        Runs.run("an evicted content is blank if it has no slot, and in its slot otherwise",
                "setFrames(4) = 6; start() = 0;", Runs.maps(0, 0, 5), Runs.reads(0, 0, 0),
                Runs.writes(0, 1), "sync() = 1;", Runs.reads(0, 0, 2, 3, 4), "frameOf(0, 0) = -1;",
                "slotOf(0, 0) = -1; count(4) = 1;", Runs.reads(0, 0, 5), "frameOf(0, 1) = -1;",
                "slotOf(0, 1) = 0; count(4) = 2; count(0) = 6; read(0, 0) = 0; count(0) = 7;",
                "read(0, 4) = 101; count(1) = 1; count(0) = 7; freeSlots() = 23");
        Runs.run("a free frame is taken before the clock is asked",
                States.fourReadAndAFifth(0), "unmap(0, 3) = true; freeFrames() = 1;", Runs.reads(0, 0, 5),
                "frameOf(0, 5) = 3; hand() = 1; count(4) = 1; latestUse(1) = 5; freeFrames() = 0");
    }
}
