/** The Description's sentences on getting a frame. */
final class EdgesOfFrames {
    private static final String ORDER = "Frames are looked at one after the other";
    private static final String MARKED = "If it is marked, the mark is removed";
    private static final String CLEAN = "Otherwise, if the present time minus the time of its latest use";
    private static final String DIRTY = "Otherwise, if this difference is greater than the window";
    private static final String TWICE = "If no frame was freed when twice as many frames were looked at";
    private static final String BEHIND = "After a frame was freed, the hand is at the frame behind it";
    private static final String WINDOW = "The window is from 0 to 50, 8 at first";

    private EdgesOfFrames() {
    }

    static void all() {
        freeFrames();
        handAtFirst();
        roundTheLastFrame();
        marks();
        windows();
        dirtyOnes();
        twiceRound();
        oldestOnes();
        evicted();
    }

    private static void freeFrames() {
        Edges.described("If frames are free, it is the one with the smallest number",
                "start() = 0;", Runs.maps(0, 0, 8), Runs.reads(0, 0, 0, 1, 2, 3, 4, 5),
                "unmap(0, 5) = true; unmap(0, 0) = true; unmap(0, 3) = true;", Runs.reads(0, 0, 6),
                "frameOf(0, 6) = 0;", Runs.reads(0, 0, 7), "frameOf(0, 7) = 3;", Runs.reads(0, 0, 8),
                "frameOf(0, 8) = 5; count(4) = 0; hand() = 0");
        // The only free frame is the last one; the hand is elsewhere and stays there.
        Edges.described("If frames are free, it is the one with the smallest number",
                States.fourReadAndAFifth(0), "unmap(0, 3) = true;", Runs.reads(0, 0, 5),
                "frameOf(0, 5) = 3; hand() = 1; count(4) = 1; latestUse(1) = 5");
        Edges.described("Otherwise a frame is freed by the clock",
                "setFrames(4) = 6; start() = 0;", Runs.maps(0, 0, 4), Runs.reads(0, 0, 0, 1, 2, 3),
                "freeFrames() = 0; count(4) = 0;", Runs.reads(0, 0, 4), "freeFrames() = 0; count(4) = 1");
    }

    private static void handAtFirst() {
        Edges.described("Its hand is at frame 0 at first", "hand() = 0; setFrames(4) = 6; hand() = 0; start() = 0;",
                Runs.maps(0, 0, 4), Runs.reads(0, 0, 0, 1, 2, 3), "hand() = 0;", Runs.reads(0, 0, 4),
                "frameOf(0, 4) = 0; hand() = 1");
    }

    /** Each page of process 1 takes the next frame; the last of them has the hand go to frame 0. */
    private static void roundTheLastFrame() {
        for (int frames : new int[] {4, 6, 12}) {
            StringBuilder round = new StringBuilder();
            for (int frame = 0; frame < frames; frame++) {
                round.append("read(1, " + 4 * frame + ") = 0; frameOf(1, " + frame + ") = " + frame + "; hand() = "
                        + (frame == frames - 1 ? 0 : frame + 1) + "; ");
            }
            String filled = "setFrames(" + frames + ") = 6; start() = 0; start() = 1; " + Runs.maps(0, 0, 15)
                    + Runs.maps(1, 0, frames - 1) + readsOfPages(frames);
            Edges.described(ORDER, filled, round.toString(),
                    "count(4) = " + frames + "; read(0, 60) = 0; frameOf(0, 15) = 0; hand() = 1");
            Edges.described(BEHIND, filled, round.toString(), "hand() = 0");
        }
        // The hand passes the last frame within one search: 3 is marked, 0 is outside the window.
        Edges.described(ORDER, States.fourReadAndAFifth(0), Runs.reads(0, 0, 5, 6),
                "hand() = 3; isReferenced(0) = true; read(0, 12) = 0; frameOf(0, 3) = 3;",
                Runs.reads(0, 0, 0), "frameOf(0, 0) = 0; hand() = 1; isReferenced(3) = false; latestUse(3) = 9");
    }

    private static String readsOfPages(int number) {
        int[] pages = new int[number];
        for (int page = 0; page < number; page++) {
            pages[page] = page;
        }
        return Runs.reads(0, 0, pages);
    }

    private static void marks() {
        Edges.described(MARKED, States.fourReadAndAFifth(8), Runs.reads(0, 0, 2),
                "isReferenced(2) = true; latestUse(2) = 6;", Runs.reads(0, 0, 5), "time() = 7; frameOf(0, 5) = 1;",
                "isReferenced(2) = false; latestUse(2) = 7; isReferenced(0) = false; latestUse(0) = 7;",
                "isReferenced(3) = false; latestUse(3) = 5");
        // However long ago a marked frame was used, it is not freed: frame 2 goes before frame 1.
        Edges.described(MARKED, States.fourReadAndAFifth(0), "read(0, 4) = 0;", Runs.repeated("read(0, 16) = 0", 9),
                "time() = 15; hand() = 1; latestUse(1) = 6; isReferenced(1) = true;", Runs.reads(0, 0, 5),
                "frameOf(0, 5) = 2; frameOf(0, 1) = 1; latestUse(1) = 16; isReferenced(1) = false; hand() = 3");
    }

    /** Frame 1 was used last at time 5: the difference is as given when page 5 needs a frame. */
    private static String difference(int window, int difference) {
        return States.fourReadAndAFifth(window) + Runs.repeated("read(0, 16) = 0", difference - 1)
                + Runs.reads(0, 0, 5) + "time() = " + (5 + difference) + "; frameOf(0, 5) = 1; hand() = 2; ";
    }

    private static void windows() {
        for (int window : new int[] {1, 2, 8, 49, 50}) {
            // As long ago as the window: the search goes round, and the mark of frame 0 is lost.
            Edges.described(CLEAN, difference(window, window), "isReferenced(0) = false; latestUse(0) = "
                    + (5 + window));
            Edges.described(CLEAN, difference(window, window + 1), "isReferenced(0) = true; latestUse(0) = "
                    + (5 + window));
        }
        Edges.described(CLEAN, difference(0, 1), "isReferenced(0) = true; latestUse(0) = 5");
        // A difference of 0 is not greater than a window of 0: the search, from frame 1 on, frees none.
        Edges.described(CLEAN, States.fourReadAndAFifth(0), Runs.reads(0, 0, 4, 1, 2, 3), "hand() = 1;",
                Runs.reads(0, 0, 5), "frameOf(0, 5) = 0; hand() = 1; latestUse(1) = 10; latestUse(3) = 10");
        Edges.described(WINDOW, difference(8, 8).replace("setWindow(8) = 8; ", ""), "isReferenced(0) = false;",
                "setWindow(8) = 8");
        Edges.described(WINDOW, difference(8, 9).replace("setWindow(8) = 8; ", ""), "isReferenced(0) = true;",
                "setWindow(0) = 8; setWindow(50) = 0;", Edges.refusedWith(Edges.ILLEGAL, "setWindow(%d)", -1, 51),
                "setWindow(8) = 50");
    }

    /** Pages 2, 4, 6 and 8 are dirty in the frames 1, 2, 3 and 0, the first three since time 5. */
    private static String fourWrittenAndAFifth(int window) {
        return "setWindow(" + window + ") = 8; setFrames(4) = 6; start() = 0; map(0, 0) = 1; map(0, 2) = 2; "
                + "map(0, 4) = 3; map(0, 6) = 4; map(0, 8) = 5; map(0, 10) = 6; " + Runs.writes(0, 0, 2, 4, 6, 8)
                + "frameOf(0, 8) = 0; slotOf(0, 0) = 0; count(5) = 1; hand() = 1; latestUse(3) = 5; ";
    }

    private static void dirtyOnes() {
        for (int window : new int[] {1, 8, 50}) {
            String wait = Runs.repeated("read(0, 32) = 108", window - 1);
            // As long ago as the window: nothing is written but the oldest, which has to go.
            Edges.described(DIRTY, fourWrittenAndAFifth(window), wait, Runs.writes(0, 10), "count(5) = 2;",
                    "slotOf(0, 2) = 1; slotOf(0, 4) = -1; slotOf(0, 6) = -1; frameOf(0, 10) = 1; hand() = 2");
            Edges.described(DIRTY, fourWrittenAndAFifth(window), wait, "read(0, 32) = 108;", Runs.writes(0, 10),
                    "count(5) = 4; slotOf(0, 2) = 1; slotOf(0, 4) = 2; slotOf(0, 6) = 3; slotOf(0, 8) = -1;",
                    "frameOf(0, 10) = 1; frameState(2) = 1; frameState(3) = 1; frameState(0) = 2; hand() = 2;",
                    "count(4) = 2");
        }
        Edges.described(DIRTY, fourWrittenAndAFifth(0), Runs.writes(0, 10), "count(5) = 4; frameOf(0, 10) = 1;",
                "latestUse(2) = 5; latestUse(3) = 5; latestUse(0) = 6; isReferenced(0) = false");
        // Written out, not freed: the search goes on to frame 2, which is clean and as old.
        Edges.described(DIRTY, fourWrittenAndAFifth(0), "unmap(0, 4) = true; map(0, 4) = 6; map(0, 12) = 7;",
                "fork(0) = 1; write(1, 16, 1) = 0; frameOf(0, 4) = 2; frameState(2) = 1; isReferenced(2) = false;",
                "slotOf(0, 2) = 1; slotOf(0, 6) = 2; frameOf(0, 2) = -1; frameOf(1, 4) = 1; hand() = 2");
        Edges.described(DIRTY, States.SLOTS_FULL_AND_FRAMES_DIRTY, "setWindow(0) = 8; unmap(1, 11) = true;",
                "read(0, 0) = 100; hand() = 0; read(0, 4) = 101; count(5) = 24; frameState(0) = 2;",
                "frameState(1) = 2; frameState(2) = 2; frameOf(0, 1) = 3; hand() = 0");
    }

    /**
     * Pages 0, 2 and 4 are dirty in the frames 0 to 2, used last at 10, 7 and 5; page 10 is clean in
     * frame 3 and marked. The window is 3, the hand is at frame 0, the time is 10.
     */
    private static final String YOUNGER_BEFORE_OLDER = "setWindow(3) = 8; setFrames(4) = 6; start() = 0; "
            + Runs.maps(0, 0, 12) + Runs.writes(0, 0, 2, 4) + Runs.reads(0, 0, 6, 8) + "frameOf(0, 8) = 3; "
            + "write(0, 8, 102) = 102; " + Runs.reads(0, 0, 10) + "frameOf(0, 10) = 3; "
            + Runs.reads(0, 100, 0, 0, 0) + "hand() = 0; time() = 10; latestUse(0) = 10; latestUse(1) = 7; "
            + "latestUse(2) = 5; latestUse(3) = 7; isReferenced(1) = false; isReferenced(2) = false; "
            + "isReferenced(3) = true; frameState(1) = 2; frameState(2) = 2; frameState(3) = 1; count(5) = 0; ";

    private static void twiceRound() {
        // The second round meets frame 1, written out in the first one, before the older frame 2.
        Edges.described(TWICE, YOUNGER_BEFORE_OLDER, Runs.reads(0, 0, 12), "frameOf(0, 12) = 1; hand() = 2;",
                "slotOf(0, 2) = 0; slotOf(0, 4) = 1; frameOf(0, 2) = -1; frameOf(0, 4) = 2; count(5) = 2;",
                "latestUse(0) = 11; isReferenced(0) = false; latestUse(3) = 11; latestUse(2) = 5");
        // Nothing is outside the window in either round; then the oldest clean frame goes.
        Edges.described(TWICE, YOUNGER_BEFORE_OLDER, "setWindow(6) = 3;", Runs.reads(0, 0, 12),
                "frameOf(0, 12) = 3; hand() = 0; count(5) = 0; latestUse(0) = 11; frameState(2) = 2");
    }

    private static void oldestOnes() {
        // All are as old; the hand is at frame 1, yet frame 0 has the smallest number.
        Edges.described(TWICE, States.fourReadAndAFifth(8), Runs.reads(0, 0, 1, 2, 3, 4), "hand() = 1;",
                Runs.reads(0, 0, 5), "frameOf(0, 5) = 0; frameOf(0, 4) = -1; hand() = 1");
        // The smallest time, at the last frame.
        Edges.described(TWICE, States.fourReadAndAFifth(50), Runs.reads(0, 0, 1, 2, 4, 5),
                "frameOf(0, 5) = 3; frameOf(0, 3) = -1; hand() = 0; latestUse(0) = 9; latestUse(1) = 9");
        // A clean one goes, though a dirty one is older.
        Edges.described(TWICE, "setWindow(50) = 8; setFrames(4) = 6; start() = 0;", Runs.maps(0, 0, 9),
                Runs.writes(0, 0, 2, 4), Runs.reads(0, 0, 6, 8), "frameOf(0, 8) = 3; hand() = 0;",
                Runs.reads(0, 0, 9), "frameOf(0, 9) = 3; count(5) = 0; frameState(0) = 2; latestUse(0) = 5");
        // None is clean: the oldest of all is written out with its cluster, and goes.
        Edges.described(TWICE, "setWindow(50) = 8; setFrames(4) = 6; start() = 0;", Runs.maps(0, 0, 9),
                Runs.writes(0, 2, 0, 3, 8, 5), "frameOf(0, 5) = 0; slotOf(0, 2) = 0; slotOf(0, 3) = 1;",
                "frameOf(0, 2) = -1; frameOf(0, 3) = 2; frameState(2) = 1; frameState(1) = 2; hand() = 1;",
                "count(4) = 1; count(5) = 2");
        Edges.described(TWICE, "setWindow(50) = 8; setFrames(4) = 6; start() = 0;", Runs.maps(0, 0, 12),
                Runs.writes(0, 0, 2, 4, 6, 8), "write(0, 8, 1) = 102; write(0, 16, 1) = 104; write(0, 32, 1) = 108;",
                Runs.writes(0, 10), "frameOf(0, 10) = 3; slotOf(0, 6) = 1; frameOf(0, 6) = -1; hand() = 0");
    }

    private static void evicted() {
        String evicts = "A frame is freed by evicting its content";
        Edges.described(evicts, "setFrames(4) = 6; start() = 0;", Runs.maps(0, 0, 5), Runs.reads(0, 0, 0),
                Runs.writes(0, 1), "sync() = 1;", Runs.reads(0, 0, 2, 3, 4, 5), "frameOf(0, 0) = -1;",
                "slotOf(0, 0) = -1; frameOf(0, 1) = -1; slotOf(0, 1) = 0; count(4) = 2; mapping(0, 0) = 1;",
                "sharersOf(0, 1) = 1; count(0) = 6; read(0, 4) = 101; count(1) = 1; count(0) = 6; read(0, 0) = 0;",
                "count(0) = 7");
        // Zeros that were written are no blank content: they go to a slot.
        Edges.described(evicts, "setFrames(4) = 6; start() = 0;", Runs.maps(0, 0, 4), "write(0, 0, 0) = 0;",
                "write(0, 4, 0) = 0; write(0, 8, 0) = 0; write(0, 12, 0) = 0;", Runs.reads(0, 0, 4),
                "frameOf(0, 0) = -1; slotOf(0, 0) = 0; count(5) = 4; read(0, 0) = 0; count(1) = 1; count(0) = 5");
    }
}
