/** Runs of calls that many tests begin with. */
final class States {
    /**
     * Four frames with the pages 8 to 11 of process 1, all dirty; pages 0 to 15 of process 0 are in
     * the slots of the same numbers, and pages 0 to 7 of process 1 in the slots 16 to 23.
     */
    static final String SLOTS_FULL_AND_FRAMES_DIRTY = "setFrames(4) = 6; start() = 0; start() = 1; "
            + Runs.maps(0, 0, 15) + Runs.maps(1, 0, 11)
            + Runs.writes(0, 0, 1, 2, 3, 4, 5, 6, 7, 8, 9, 10, 11, 12, 13, 14, 15)
            + Runs.writes(1, 0, 1, 2, 3, 4, 5, 6, 7, 8, 9, 10, 11)
            + "freeSlots() = 0; freeFrames() = 0; frameState(0) = 2; frameState(1) = 2; "
            + "frameState(2) = 2; frameState(3) = 2; slotOf(0, 0) = 0; slotOf(0, 15) = 15; "
            + "slotOf(1, 0) = 16; slotOf(1, 7) = 23; frameOf(1, 8) = 0; frameOf(1, 11) = 3; count(5) = 24; ";

    /**
     * Pages 0 to 3 of process 0 have 100 to 103 in word 0 and are in the slots 0 to 3 alone; the four
     * frames are free, and the time is 8: process 1 has driven them out.
     */
    static final String FOUR_IN_SLOTS = "setFrames(4) = 6; start() = 0; " + Runs.maps(0, 0, 3)
            + Runs.writes(0, 0, 1, 2, 3) + "sync() = 4; start() = 1; " + Runs.maps(1, 0, 3)
            + Runs.reads(1, 0, 0, 1, 2, 3) + "exit(1) = 4; freeFrames() = 4; time() = 8; ";

    /**
     * Pages 0 to 15 of process 0 are in the slots of the same numbers alone, pages 0 to 7 of process 1
     * in the slots 16 to 23; word 0 of page p is 100 + p. Pages 0 to 11 of process 2 have the frames.
     */
    static final String SLOTS_FULL_AND_FRAMES_CLEAN =
            "setWindow(50) = 8; setFrames(12) = 6; start() = 0; start() = 1; start() = 2; "
            + Runs.maps(0, 0, 15) + Runs.maps(1, 0, 7) + Runs.maps(2, 0, 11)
            + Runs.writes(0, 0, 1, 2, 3, 4, 5, 6, 7, 8, 9, 10, 11) + "sync() = 12; "
            + Runs.writes(0, 12, 13, 14, 15) + "sync() = 4; "
            + Runs.writes(1, 0, 1, 2, 3, 4, 5, 6, 7) + "sync() = 8; freeSlots() = 0; "
            + Runs.reads(2, 0, 0, 1, 2, 3, 4, 5, 6, 7, 8, 9, 10, 11) + "slotOf(1, 7) = 23; "
            + "frameOf(0, 15) = -1; frameOf(1, 7) = -1; freeFrames() = 0; count(4) = 24; ";

    /** The same, with all frames free. */
    static final String SLOTS_FULL_AND_FRAMES_FREE =
            SLOTS_FULL_AND_FRAMES_CLEAN + "exit(2) = 12; freeFrames() = 12; ";

    private States() {
    }

    /** The four frames were read once; a fifth page has then taken frame 0, and no other is marked. */
    static String fourReadAndAFifth(int window) {
        return "setWindow(" + window + ") = 8; setFrames(4) = 6; start() = 0; " + Runs.maps(0, 0, 6)
                + Runs.reads(0, 0, 0, 1, 2, 3) + "hand() = 0; " + Runs.reads(0, 0, 4)
                + "hand() = 1; frameOf(0, 0) = -1; frameOf(0, 4) = 0; count(4) = 1; ";
    }

    /** All 16 pages of a process without pages are attached to the first content of segment 0. */
    static String attachedToOneContent(int process) {
        StringBuilder calls = new StringBuilder();
        for (int page = 0; page < 16; page++) {
            calls.append("attach(" + process + ", " + page + ", 0, 0) = " + (page + 1) + "; ");
        }
        return calls.toString();
    }
}
