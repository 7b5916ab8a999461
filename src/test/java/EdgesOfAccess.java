/** The Description's sentences on accesses. */
final class EdgesOfAccess {
    private static final String SWAP_IN = "If it is in slot s alone, it gets a frame";
    private static final String COPY = "A write to a private page to whose content other pages refer";
    private static final String NO_FRAME = "An access throws an IllegalStateException if";
    private static final String FULL = States.SLOTS_FULL_AND_FRAMES_DIRTY;

    private EdgesOfAccess() {
    }

    static void all() {
        inAFrameOrBlank();
        prefetchBehindTheLastSlots();
        prefetchWithFewFrames();
        newFrames();
        readsAndWrites();
        copies();
        wordsBeforeTheFrame();
        lostSlots();
        noFrame();
        oneWayOutIsEnough();
    }

    private static void inAFrameOrBlank() {
        Edges.described("Access to a content means: if it is in a frame", FULL,
                "count(0) = 28; count(4) = 24; hand() = 0; read(1, 32) = 108; write(1, 47, 3) = 0; count(0) = 28;",
                "count(1) = 0; count(4) = 24; count(5) = 24; hand() = 0; frameOf(1, 8) = 0; frameOf(1, 11) = 3");
        // No prefetch either: the content is in slot 0 and in a frame, slot 1 is behind it.
        Edges.described("Access to a content means: if it is in a frame", States.FOUR_IN_SLOTS,
                "start() = 2;", Runs.maps(2, 0, 2), Runs.reads(2, 0, 0, 1, 2),
                "read(0, 0) = 100; count(3) = 0; unmap(2, 0) = true; freeFrames() = 1; read(0, 0) = 100;",
                "count(1) = 1; count(3) = 0; freeFrames() = 1");
        Edges.described("If it is blank, it gets a frame (a zero fill)",
                "createSegment(1) = 0; start() = 0; map(0, 15) = 1; attach(0, 0, 0, 0) = 2; read(0, 63) = 0;",
                "count(0) = 1; frameOf(0, 15) = 0; write(0, 0, 1) = 0; count(0) = 2; frameOf(0, 0) = 1;",
                "count(1) = 0; read(0, 60) = 0; count(0) = 2");
        Edges.described("If it is blank, it gets a frame (a zero fill)",
                States.fourReadAndAFifth(8), "read(0, 0) = 0; count(0) = 6; count(1) = 0; count(4) = 2");
    }

    private static void prefetchBehindTheLastSlots() {
        String free = States.SLOTS_FULL_AND_FRAMES_FREE;
        Edges.described(SWAP_IN, free, "read(1, 28) = 107; slotOf(1, 7) = 23; count(1) = 1; count(3) = 0;",
                "freeFrames() = 11");
        Edges.described(SWAP_IN, free, "read(1, 24) = 106; slotOf(1, 6) = 22; count(3) = 1; frameOf(1, 6) = 0;",
                "frameOf(1, 7) = 1; freeFrames() = 10");
        Edges.described(SWAP_IN, free, "read(1, 20) = 105; slotOf(1, 5) = 21; count(3) = 2; frameOf(1, 7) = 2;",
                "freeFrames() = 9");
        Edges.described(SWAP_IN, free, "read(1, 16) = 104; slotOf(1, 4) = 20; count(3) = 3; frameOf(1, 7) = 3;",
                "freeFrames() = 8");
        Edges.described(SWAP_IN, free, "read(1, 12) = 103; slotOf(1, 3) = 19; count(3) = 3; frameOf(1, 6) = 3;",
                "frameOf(1, 7) = -1; freeFrames() = 8; slotOf(1, 6) = 22; freeSlots() = 0");
        Edges.described(SWAP_IN, free, "read(0, 0) = 100; count(3) = 3; frameOf(0, 3) = 3; frameOf(0, 4) = -1;",
                "slotOf(0, 0) = 0; slotOf(0, 3) = 3; frameOf(1, 7) = -1; freeSlots() = 0");
    }

    private static void prefetchWithFewFrames() {
        String full = States.SLOTS_FULL_AND_FRAMES_CLEAN;
        Edges.described(SWAP_IN, full, "read(0, 0) = 100; count(1) = 1; count(3) = 0; count(4) = 25");
        for (int frames = 1; frames <= 5; frames++) {
            int prefetched = Math.min(frames - 1, 3);
            Edges.described(SWAP_IN, full, Edges.counted("unmap(2, %d) = true", 0, frames - 1),
                    "freeFrames() = " + frames + "; read(0, 0) = 100; count(1) = 1; count(4) = 24;",
                    "count(3) = " + prefetched + "; freeFrames() = " + (frames - 1 - prefetched) + ";",
                    "frameOf(0, " + (prefetched + 1) + ") = -1");
        }
        Edges.described(SWAP_IN, full, "unmap(0, 1) = true; unmap(2, 0) = true; unmap(2, 1) = true;",
                "read(0, 0) = 100; count(3) = 1; frameOf(0, 2) = 1; frameOf(0, 3) = -1; freeFrames() = 0");
        Edges.described(SWAP_IN, full, "unmap(2, 0) = true; read(0, 4) = 101; count(3) = 0;",
                "unmap(2, 1) = true; unmap(2, 2) = true; read(0, 0) = 100; count(1) = 2; count(3) = 1;",
                "frameOf(0, 2) = 2; frameOf(0, 3) = -1; frameOf(0, 1) = 0; freeFrames() = 0");
        Edges.described(SWAP_IN, full, "unmap(0, 1) = true; unmap(0, 2) = true; unmap(0, 3) = true;",
                "exit(2) = 12; read(0, 0) = 100; count(3) = 0; frameOf(0, 4) = -1; freeFrames() = 11");
    }

    private static void newFrames() {
        String given = "A frame that a content gets by a zero fill, swap-in, copy or prefetch";
        Edges.described(given, "start() = 0; map(0, 0) = 1; fork(0) = 1; write(1, 0, 5) = 0; count(0) = 1;",
                "count(2) = 1; frameOf(0, 0) = 0; latestUse(0) = 1; isReferenced(0) = false;",
                "frameOf(1, 0) = 1; latestUse(1) = 1; isReferenced(1) = true");
        Edges.described(given, States.FOUR_IN_SLOTS, "unmap(0, 3) = true; fork(0) = 2; write(2, 0, 5) = 100;",
                "count(1) = 1; count(2) = 1; count(3) = 2; latestUse(0) = 9; isReferenced(0) = false;",
                "latestUse(1) = 9; isReferenced(1) = false; latestUse(2) = 9; isReferenced(2) = false;",
                "frameOf(2, 0) = 3; latestUse(3) = 9; isReferenced(3) = true");
        // A frame that was marked for its content before is not marked for the next one.
        Edges.described(given, States.FOUR_IN_SLOTS, "start() = 2;", Runs.maps(2, 0, 3),
                Runs.reads(2, 0, 0, 1, 2, 3), "isReferenced(1) = true; exit(2) = 4; read(0, 0) = 100;",
                "isReferenced(0) = true; isReferenced(1) = false; isReferenced(3) = false; latestUse(3) = 13");
    }

    private static void readsAndWrites() {
        Edges.described("A read accesses the content of its page",
                "start() = 0; map(0, 0) = 1; fork(0) = 1; read(1, 3) = 0; count(0) = 1; count(2) = 0;",
                "sharersOf(1, 0) = 2; frameOf(0, 0) = 0; frameOf(1, 0) = 0; frameState(0) = 1");
        Edges.described("A write to a shared page accesses its content",
                "createSegment(1) = 0; start() = 0; attach(0, 0, 0, 0) = 1; attach(0, 15, 0, 0) = 2; fork(0) = 1;",
                "write(1, 63, 4) = 0; count(2) = 0; count(0) = 1; sharersOf(0, 0) = 4; read(0, 3) = 4;",
                "frameState(0) = 2; freeFrames() = 5");
        Edges.described("A write to a private page whose content has no other page",
                "start() = 0; map(0, 0) = 1; write(0, 0, 4) = 0; count(0) = 1; fork(0) = 1; exit(0) = 0;",
                "write(1, 0, 5) = 4; count(2) = 0; frameOf(1, 0) = 0; fork(1) = 2; unmap(1, 0) = false;",
                "write(2, 0, 6) = 5; count(2) = 0; freeFrames() = 5");
    }

    private static void copies() {
        StringBuilder copied = new StringBuilder();
        for (int process = 0; process < 9; process++) {
            copied.append("sharersOf(9, 15) = " + (10 - process) + "; write(" + process + ", 63, " + process
                    + ") = 7; count(2) = " + (process + 1) + "; sharersOf(" + process + ", 15) = 1; frameOf("
                    + process + ", 15) = " + (process + 1) + "; ");
        }
        Edges.described(COPY, "setFrames(12) = 6; start() = 0; map(0, 15) = 1; write(0, 63, 7) = 0;",
                Edges.counted("fork(0) = %d", 1, 9), copied.toString(),
                "sharersOf(9, 15) = 1; write(9, 63, 9) = 7; count(2) = 9; frameOf(9, 15) = 0;",
                "freeFrames() = 2; read(0, 63) = 0; read(8, 63) = 8");
        Edges.described(COPY, "start() = 0; map(0, 0) = 1; write(0, 3, -1) = 0; sync() = 1; fork(0) = 1;",
                "write(0, 0, 6) = 0; slotOf(1, 0) = 0; frameState(0) = 1; slotOf(0, 0) = -1; frameState(1) = 2;",
                "read(0, 3) = -1; read(1, 0) = 0; read(1, 3) = -1; freeSlots() = 23; mapping(0, 0) = 1");
        Edges.described(COPY, States.FOUR_IN_SLOTS, "fork(0) = 2; write(2, 15, 7) = 0; count(1) = 1;",
                "count(2) = 1; count(3) = 0; count(0) = 8; frameOf(0, 3) = 0; frameOf(2, 3) = 1;",
                "slotOf(0, 3) = 3; slotOf(2, 3) = -1; read(2, 12) = 103; read(0, 15) = 0");
        // The page refers to its original while the copy looks for a frame: slot 1 goes to page 1.
        Edges.described(COPY, "setFrames(4) = 6; start() = 0; map(0, 0) = 1; write(0, 0, 1) = 0; fork(0) = 1;",
                "map(0, 1) = 2; map(0, 5) = 3; map(0, 7) = 4; write(0, 4, 2) = 0; write(0, 20, 3) = 0;",
                "write(0, 28, 4) = 0; write(0, 1, 9) = 0; slotOf(1, 0) = 0; slotOf(0, 1) = 1; count(5) = 2");
    }

    private static void wordsBeforeTheFrame() {
        String taken = "(The words are taken before that frame is looked for.)";
        Edges.described(taken, FULL, "unmap(1, 8) = true; fork(0) = 2; write(2, 61, 7) = 0; count(1) = 1;",
                "count(2) = 1; frameOf(0, 15) = -1; slotOf(0, 15) = 15; frameOf(2, 15) = 0; read(2, 60) = 115;",
                "read(2, 61) = 7; read(2, 62) = 0");
        // A blank original is filled, driven out by its copy, and blank again.
        Edges.described(taken, FULL, "unmap(1, 8) = true; map(1, 12) = 12; fork(1) = 2; write(2, 48, 5) = 0;",
                "count(0) = 29; count(2) = 1; count(4) = 25; frameOf(1, 12) = -1; slotOf(1, 12) = -1;",
                "frameOf(2, 12) = 0; read(2, 48) = 5; read(2, 49) = 0;", Edges.refused(Edges.STATE, "read(1, 48)"));
        // A dirty original is written out for its copy.
        Edges.described(taken, FULL, "unmap(0, 3) = true; fork(1) = 2; write(2, 33, 5) = 0; count(2) = 1;",
                "slotOf(1, 8) = 3; frameOf(1, 8) = -1; frameOf(2, 8) = 0; read(2, 32) = 108; read(2, 33) = 5;",
                "freeSlots() = 0; count(5) = 25");
    }

    private static void lostSlots() {
        String lost = "A content that is written loses its slot";
        Edges.described(lost, States.FOUR_IN_SLOTS, "write(0, 0, 100) = 100; slotOf(0, 0) = -1; freeSlots() = 21;",
                "frameState(0) = 2; slotOf(0, 1) = 1; frameState(1) = 1; sync() = 1; slotOf(0, 0) = 0;",
                "frameState(0) = 1; freeSlots() = 20");
        // The slot is free for others at once; its next owner keeps it.
        Edges.described(lost, States.SLOTS_FULL_AND_FRAMES_FREE, "write(0, 20, 1) = 105; freeSlots() = 1;",
                "map(1, 8) = 9; write(1, 32, 8) = 0; unmap(0, 5) = true; freeSlots() = 1; sync() = 1;",
                "slotOf(1, 8) = 5; freeSlots() = 0; write(1, 32, 9) = 8; slotOf(1, 8) = -1; freeSlots() = 1");
    }

    private static void noFrame() {
        Edges.described(NO_FRAME, FULL, Edges.refused(Edges.STATE, "read(0, 0)", "read(0, 63)", "read(1, 0)",
                "write(0, 0, 1)", "write(1, 31, 1)"), "time() = 28; count(1) = 0");
        Edges.described(NO_FRAME, FULL, "map(1, 12) = 13; createSegment(1) = 0; attach(1, 13, 0, 0) = 14;",
                Edges.refused(Edges.STATE, "read(1, 48)", "write(1, 48, 1)", "read(1, 52)", "write(1, 52, 0)"));
        Edges.described(NO_FRAME, FULL, "fork(1) = 2;", Edges.refused(Edges.STATE, "write(2, 32, 5)",
                "write(1, 32, 5)", "write(2, 0, 5)"), "read(2, 32) = 108; unmap(1, 8) = false;",
                "write(2, 32, 5) = 108; count(2) = 0");
        // A shared page is written in place, however many refer to it.
        Edges.described(NO_FRAME, FULL, "createSegment(1) = 0; attach(1, 15, 0, 0) = 13; unmap(1, 11) = true;",
                "write(1, 60, 6) = 0; freeFrames() = 0; fork(1) = 2; write(2, 60, 7) = 6;",
                Edges.refused(Edges.STATE, "write(2, 32, 5)", "read(0, 0)"), "read(1, 60) = 7");
    }

    private static void oneWayOutIsEnough() {
        Edges.described(NO_FRAME, FULL, "unmap(1, 11) = true; freeFrames() = 1; read(0, 0) = 100;",
                "frameOf(0, 0) = 3; count(4) = 24");
        Edges.described(NO_FRAME, FULL, "unmap(0, 0) = true; freeSlots() = 1; read(0, 4) = 101; freeSlots() = 0;",
                "slotOf(1, 8) = 0; frameOf(0, 1) = 0; count(4) = 25; count(5) = 25; frameState(1) = 2");
        Edges.described(NO_FRAME, FULL, "unmap(1, 11) = true; read(0, 0) = 100; freeFrames() = 0;",
                "frameState(3) = 1; freeSlots() = 0; read(0, 4) = 101; frameOf(0, 1) = 3; frameOf(0, 0) = -1;",
                "count(4) = 25; count(5) = 24");
        // The clean content is the only way out, and the write makes it dirty without needing a frame.
        Edges.described(NO_FRAME, FULL, "unmap(1, 11) = true; createSegment(1) = 0; attach(1, 11, 0, 0) = 12;",
                "read(1, 44) = 0; write(1, 44, 1) = 0; frameState(3) = 2;",
                Edges.refused(Edges.STATE, "read(0, 0)", "write(0, 0, 1)"), "freeSlots() = 0");
        // Two frames are needed and one can be had: what it gets first is clean then.
        Edges.described(NO_FRAME, FULL, "unmap(0, 0) = true; fork(0) = 2; write(2, 5, 7) = 0; count(1) = 1;",
                "count(2) = 1; count(4) = 26; count(5) = 25; frameOf(0, 1) = -1; frameOf(2, 1) = 0;",
                Edges.refused(Edges.STATE, "read(0, 4)"));
        // A write that only parts from a clean content may drive that one out.
        Edges.described(NO_FRAME, FULL, "unmap(1, 11) = true; read(0, 0) = 100; fork(0) = 2; write(2, 0, 7) = 100;",
                "count(2) = 1; frameOf(0, 0) = -1; slotOf(0, 0) = 0; frameOf(2, 0) = 3;",
                Edges.refused(Edges.STATE, "read(0, 0)"));
    }
}
