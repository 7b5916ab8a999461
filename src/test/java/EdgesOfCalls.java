/** Promises 13 to 15: read, write, sync. */
final class EdgesOfCalls {
    private static final String NO_ADDRESS = "Throws IndexOutOfBoundsException if no such process";
    private static final String EXITED = "Throws NoSuchElementException if the process has exited";
    private static final String UNMAPPED = "Throws IllegalArgumentException if the page is not mapped";
    private static final String NO_FRAME = "Throws IllegalStateException if no frame can be had";
    private static final int[] NO_ADDRESSES = {-1, -4, 64, 65, 128, Edges.LEAST, Edges.MOST};
    private static final String TWO = "start() = 0; start() = 1; map(0, 0) = 1; map(0, 15) = 2; map(1, 0) = 1; ";
    private static final String FULL = States.SLOTS_FULL_AND_FRAMES_DIRTY;

    private EdgesOfCalls() {
    }

    static void all() {
        read();
        write();
        sync();
    }

    private static void read() {
        Edges.promised(13, "Reads a word", TWO, "read(0, 0) = 0; read(0, 63) = 0; time() = 2; count(0) = 2;",
                "frameState(0) = 1; frameState(1) = 1; read(0, 3) = 0; read(0, 60) = 0; time() = 4; count(0) = 2");
        Edges.promised(13, "Returns the word", TWO, "write(0, 0, -2147483648) = 0; write(0, 63, 2147483647) = 0;",
                "read(0, 0) = -2147483648; read(0, 63) = 2147483647; read(0, 1) = 0; read(0, 62) = 0; read(1, 0) = 0;",
                "write(0, 0, 0) = -2147483648; read(0, 0) = 0");
        Edges.promised(13, NO_ADDRESS, Edges.refused(Edges.INDEX, "read(0, 0)"), TWO,
                Edges.refusedWith(Edges.INDEX, "read(%d, 0)", Edges.NO_PROCESSES),
                Edges.refusedWith(Edges.INDEX, "read(0, %d)", NO_ADDRESSES), "time() = 0; read(0, 63) = 0");
        Edges.promised(13, EXITED, TWO, "exit(0) = 2;", Edges.refused(Edges.GONE, "read(0, 0)", "read(0, 63)",
                "read(0, 30)"), "time() = 0; read(1, 0) = 0");
        Edges.promised(13, UNMAPPED, TWO, Edges.refusedWith(Edges.ILLEGAL, "read(0, %d)", 4, 7, 8, 56, 59),
                Edges.refusedWith(Edges.ILLEGAL, "read(1, %d)", 4, 63), "unmap(0, 0) = true;",
                Edges.refusedWith(Edges.ILLEGAL, "read(0, %d)", 0, 3), "time() = 0; count(0) = 0");
        Edges.promised(13, NO_FRAME, FULL, "map(1, 12) = 13;", Edges.refused(Edges.STATE, "read(0, 0)",
                "read(1, 31)", "read(1, 48)"), "read(1, 32) = 108; read(1, 47) = 0; unmap(1, 12) = true;",
                "unmap(0, 15) = true; read(0, 0) = 100");
    }

    private static void write() {
        Edges.promised(14, "Writes a word", TWO, "write(0, 0, 1) = 0; write(0, 63, 2) = 0; time() = 2; count(0) = 2;",
                "frameState(0) = 2; frameState(1) = 2; read(0, 0) = 1; read(0, 1) = 0; read(0, 63) = 2;",
                "read(1, 0) = 0");
        Edges.promised(14, "Returns the word before", TWO, "write(0, 63, 2147483647) = 0;",
                "write(0, 63, -2147483648) = 2147483647; write(0, 63, 0) = -2147483648; write(0, 63, -1) = 0;",
                "write(0, 63, -1) = -1; write(0, 60, 5) = 0");
        // The word before is that of the content which is copied, also if it comes from its slot.
        Edges.promised(14, "Returns the word before", States.FOUR_IN_SLOTS, "fork(0) = 2; write(2, 12, 5) = 103;",
                "write(0, 12, 6) = 103; write(2, 12, 7) = 5");
        Edges.promised(14, NO_ADDRESS, Edges.refused(Edges.INDEX, "write(0, 0, 1)"), TWO,
                Edges.refusedWith(Edges.INDEX, "write(%d, 0, 1)", Edges.NO_PROCESSES),
                Edges.refusedWith(Edges.INDEX, "write(0, %d, 1)", NO_ADDRESSES), "time() = 0; write(0, 63, 1) = 0");
        Edges.promised(14, EXITED, TWO, "exit(0) = 2;", Edges.refused(Edges.GONE, "write(0, 0, 1)",
                "write(0, 63, 1)", "write(0, 30, 1)"), "time() = 0; write(1, 0, 1) = 0");
        Edges.promised(14, UNMAPPED, TWO, Edges.refusedWith(Edges.ILLEGAL, "write(0, %d, 1)", 4, 7, 8, 56, 59),
                Edges.refusedWith(Edges.ILLEGAL, "write(1, %d, 1)", 4, 63), "unmap(0, 0) = true;",
                Edges.refusedWith(Edges.ILLEGAL, "write(0, %d, 1)", 0, 3), "time() = 0; count(0) = 0");
        Edges.promised(14, NO_FRAME, FULL, "map(1, 12) = 13; fork(1) = 2;", Edges.refused(Edges.STATE,
                "write(0, 0, 1)", "write(1, 31, 1)", "write(1, 48, 1)", "write(2, 32, 1)", "write(1, 47, 1)"),
                "exit(2) = 0; write(1, 32, 1) = 108; write(1, 47, 1) = 0; unmap(0, 15) = true; write(0, 0, 1) = 100");
    }

    private static void sync() {
        String all = "Writes out all dirty contents that are in frames";
        Edges.promised(15, all, "start() = 0;", Runs.maps(0, 0, 4), Runs.writes(0, 4, 2, 0, 3, 1), "sync() = 5;",
                "slotOf(0, 4) = 0; slotOf(0, 2) = 1; slotOf(0, 3) = 2; slotOf(0, 0) = 3; slotOf(0, 1) = 4;",
                Edges.counted("frameState(%d) = 1", 0, 4), "hand() = 0; time() = 5; latestUse(4) = 5;",
                "isReferenced(4) = true; count(4) = 0");
        // A dirty content in the first frame and in the last one.
        Edges.promised(15, all, "setFrames(12) = 6; start() = 0;", Runs.maps(0, 0, 12), Runs.writes(0, 0),
                Runs.reads(0, 0, 1, 2, 3, 4, 5, 6, 7, 8, 9, 10), Runs.writes(0, 12), "frameOf(0, 12) = 11;",
                "sync() = 2; slotOf(0, 0) = 0; slotOf(0, 12) = 1; frameState(11) = 1; frameState(10) = 1");
        Edges.promised(15, "Returns how many contents got slots", "sync() = 0; start() = 0; map(0, 0) = 1; sync() = 0;",
                "read(0, 0) = 0; sync() = 0; write(0, 0, 0) = 0; sync() = 1; sync() = 0; write(0, 0, 0) = 0;",
                "sync() = 1");
        Edges.promised(15, "Returns how many contents got slots", "setFrames(12) = 6; start() = 0;",
                Runs.maps(0, 0, 11), Runs.writes(0, 0, 1, 2, 3, 4, 5, 6, 7, 8, 9, 10, 11), "sync() = 12;",
                "freeSlots() = 12; sync() = 0");
        Edges.promised(15, "Returns how many contents got slots", FULL, "sync() = 0; unmap(0, 0) = true;",
                "unmap(0, 2) = true; sync() = 2; slotOf(1, 8) = 0; slotOf(1, 9) = 2; frameState(2) = 2;",
                "sync() = 0; exit(0) = 14; sync() = 2; frameState(2) = 1; frameState(3) = 1");
    }
}
