/** The Description's sentences on contents, processes and pages, and the time. */
final class EdgesOfContents {
    private EdgesOfContents() {
    }

    static void all() {
        words();
        placesOfContents();
        numbersOfFramesAndSlots();
        processes();
        pagesAndAddresses();
        segments();
        vanishing();
        time();
        uses();
        lastCall();
    }

    private static void words() {
        Edges.described("A content is a page of 4 words",
                "createSegment(1) = 0; start() = 0; map(0, 0) = 1; attach(0, 15, 0, 0) = 2;",
                Edges.counted("read(0, %d) = 0", 0, 3), Edges.counted("read(0, %d) = 0", 60, 63),
                "write(0, 0, -2147483648) = 0; write(0, 1, 2147483647) = 0; write(0, 2, -1) = 0;",
                "write(0, 3, 1) = 0; write(0, 60, 2147483647) = 0; write(0, 63, -2147483648) = 0;",
                "read(0, 0) = -2147483648; read(0, 1) = 2147483647; read(0, 2) = -1; read(0, 3) = 1;",
                "read(0, 60) = 2147483647; read(0, 61) = 0; read(0, 62) = 0; read(0, 63) = -2147483648");
        Edges.described("A content in a frame may have a slot",
                "setFrames(4) = 6; start() = 0;", Runs.maps(0, 0, 4),
                "write(0, 0, -2147483648) = 0; write(0, 1, 2147483647) = 0; write(0, 3, -1) = 0;",
                "sync() = 1; frameOf(0, 0) = 0; slotOf(0, 0) = 0;", Runs.reads(0, 0, 1, 2, 3, 4),
                "frameOf(0, 0) = -1; slotOf(0, 0) = 0; read(0, 0) = -2147483648; frameOf(0, 0) = 1;",
                "slotOf(0, 0) = 0; read(0, 1) = 2147483647; read(0, 2) = 0; read(0, 3) = -1");
        Edges.described("A clean content without a slot has only zeros",
                States.fourReadAndAFifth(8), "slotOf(0, 0) = -1; count(0) = 5;",
                Edges.counted("read(0, %d) = 0", 0, 3), "count(0) = 6; count(1) = 0; freeSlots() = 24");
    }

    private static void placesOfContents() {
        Edges.described("At each moment it is in one of three places",
                "setFrames(4) = 6; start() = 0;", Runs.maps(0, 0, 4), "frameOf(0, 0) = -1; slotOf(0, 0) = -1;",
                "write(0, 0, 9) = 0; frameOf(0, 0) = 0; slotOf(0, 0) = -1; sync() = 1; frameOf(0, 0) = 0;",
                "slotOf(0, 0) = 0;", Runs.reads(0, 0, 1, 2, 3, 4), "frameOf(0, 0) = -1; slotOf(0, 0) = 0");
        Edges.described("A content in a frame is dirty if",
                "start() = 0; map(0, 0) = 1; read(0, 0) = 0; frameState(0) = 1; write(0, 3, 0) = 0;",
                "frameState(0) = 2; read(0, 0) = 0; frameState(0) = 2; sync() = 1; frameState(0) = 1;",
                "write(0, 3, 0) = 0; frameState(0) = 2; slotOf(0, 0) = -1");
        Edges.described("A content in a frame is dirty if",
                States.FOUR_IN_SLOTS, "read(0, 12) = 103; frameState(0) = 1; write(0, 12, 103) = 103;",
                "frameState(0) = 2; slotOf(0, 3) = -1");
    }

    private static void numbersOfFramesAndSlots() {
        String sixteen = "start() = 0; " + Runs.maps(0, 0, 15);
        Edges.described("There are 4 to 12 frames (6 at first) and 24 slots",
                sixteen, Edges.counted("frameState(%d) = 0", 0, 5), Edges.refused(Edges.INDEX, "frameState(6)"),
                Runs.reads(0, 0, 0, 1, 2, 3, 4), "freeFrames() = 1; count(4) = 0;", Runs.reads(0, 0, 5),
                "frameOf(0, 5) = 5; count(4) = 0;", Runs.reads(0, 0, 6), "frameOf(0, 6) = 0; count(4) = 1");
        Edges.described("There are 4 to 12 frames (6 at first) and 24 slots",
                "setFrames(4) = 6;", sixteen, Runs.reads(0, 0, 0, 1, 2, 3), "frameOf(0, 3) = 3; count(4) = 0;",
                Runs.reads(0, 0, 4), "frameOf(0, 4) = 0; count(4) = 1");
        Edges.described("There are 4 to 12 frames (6 at first) and 24 slots",
                "setFrames(12) = 6;", sixteen, Runs.reads(0, 0, 0, 1, 2, 3, 4, 5, 6, 7, 8, 9, 10, 11),
                "frameOf(0, 11) = 11; freeFrames() = 0; count(4) = 0;", Runs.reads(0, 0, 12),
                "frameOf(0, 12) = 0; count(4) = 1");
        Edges.described("There are 4 to 12 frames (6 at first) and 24 slots",
                "freeSlots() = 24;", States.SLOTS_FULL_AND_FRAMES_DIRTY,
                "slotOf(0, 0) = 0; slotOf(1, 7) = 23; freeSlots() = 0; sync() = 0; slotOf(1, 8) = -1");
    }

    private static void processes() {
        Edges.described("Processes are numbered from 0",
                "start() = 0; fork(0) = 1; start() = 2; fork(2) = 3; exit(0) = 0; start() = 4; fork(1) = 5;",
                "start() = 6; start() = 7; fork(7) = 8; fork(8) = 9;",
                Edges.refused(Edges.STATE, "start()", "fork(9)"), "exit(9) = 0;",
                Edges.refused(Edges.STATE, "start()", "fork(8)"), Edges.refused(Edges.INDEX, "isLive(10)"));
        Edges.described("A process is live until it exits",
                "start() = 0; isLive(0) = true; fork(0) = 1; isLive(1) = true; exit(0) = 0; isLive(0) = false;",
                "isLive(1) = true; start() = 2; isLive(0) = false; isLive(2) = true; exit(2) = 0;",
                "isLive(2) = false; isLive(1) = true");
    }

    private static void pagesAndAddresses() {
        Edges.described("It has 16 pages, numbered from 0",
                "createSegment(1) = 0; start() = 0; mapping(0, 0) = 0; mapping(0, 15) = 0;",
                Runs.maps(0, 0, 15),
                Edges.refused(Edges.INDEX, "map(0, 16)", "map(0, -1)", "mapping(0, 16)", "mapping(0, -1)"),
                "mapping(0, 0) = 1; mapping(0, 15) = 1; unmap(0, 15) = true; attach(0, 15, 0, 0) = 16;",
                "mapping(0, 15) = 2; mapping(0, 14) = 1");
        for (int page = 0; page < 16; page++) {
            int first = 4 * page;
            String before = page == 0 ? Edges.INDEX : Edges.ILLEGAL;
            String behind = page == 15 ? Edges.INDEX : Edges.ILLEGAL;
            Edges.described("Page p has the addresses 4 * p to 4 * p + 3",
                    "start() = 0; map(0, " + page + ") = 1;",
                    Edges.refusedWith(before, "read(0, %d)", first - 1),
                    Edges.refusedWith(behind, "read(0, %d)", first + 4),
                    Edges.refusedWith(before, "write(0, %d, 1)", first - 1),
                    Edges.refusedWith(behind, "write(0, %d, 1)", first + 4),
                    Edges.counted("write(0, %d, %d) = 0", first, first + 3),
                    Edges.counted("read(0, %d) = %d", first, first + 3), "count(0) = 1");
        }
    }

    private static void segments() {
        Edges.described("Segments are numbered from 0; at most 4",
                "createSegment(6) = 0; createSegment(1) = 1; createSegment(6) = 2; createSegment(1) = 3;",
                Edges.refused(Edges.STATE, "createSegment(1)", "createSegment(6)"), "start() = 0;",
                "attach(0, 0, 3, 0) = 1;", Edges.refused(Edges.INDEX, "attach(0, 1, 4, 0)", "attach(0, 1, -1, 0)"));
        for (int size = 1; size <= 6; size++) {
            Edges.described("A segment has 1 to 6 contents, with indices from 0",
                    "createSegment(" + size + ") = 0; createSegment(6) = 1; start() = 0;",
                    Edges.refusedWith(Edges.INDEX, "attach(0, 0, 0, %d)", -1, size, 6, 7),
                    "attach(0, 0, 0, 0) = 1; attach(0, 1, 0, " + (size - 1) + ") = 2");
        }
        Edges.described("A segment has 1 to 6 contents, with indices from 0",
                "createSegment(6) = 0; start() = 0; attach(0, 0, 0, 0) = 1; attach(0, 1, 0, 5) = 2;",
                "write(0, 0, 7) = 0; write(0, 7, 8) = 0; exit(0) = 0; freeFrames() = 4; sync() = 2;",
                "freeSlots() = 22; start() = 1; attach(1, 15, 0, 0) = 1; attach(1, 14, 0, 5) = 2;",
                "sharersOf(1, 15) = 1; read(1, 60) = 7; read(1, 59) = 8; count(0) = 2; count(1) = 0");
    }

    private static void vanishing() {
        String vanishes = "A content to which neither a page nor a segment refers";
        Edges.described(vanishes, "start() = 0; map(0, 0) = 1; unmap(0, 0) = true; freeFrames() = 6;",
                "freeSlots() = 24");
        Edges.described(vanishes, "start() = 0; map(0, 0) = 1; write(0, 0, 1) = 0; freeFrames() = 5;",
                "unmap(0, 0) = true; freeFrames() = 6; freeSlots() = 24; frameState(0) = 0; latestUse(0) = -1;",
                "isReferenced(0) = false; count(4) = 0");
        Edges.described(vanishes, "start() = 0; map(0, 0) = 1; write(0, 0, 1) = 0; sync() = 1;",
                "unmap(0, 0) = true; freeFrames() = 6; freeSlots() = 24; map(0, 0) = 1; read(0, 0) = 0");
        Edges.described(vanishes, States.SLOTS_FULL_AND_FRAMES_DIRTY, "unmap(1, 7) = true; freeSlots() = 1;",
                "freeFrames() = 0; unmap(0, 0) = true; freeSlots() = 2; sync() = 2; slotOf(1, 8) = 0;",
                "slotOf(1, 9) = 23");
        Edges.described(vanishes, "createSegment(1) = 0; start() = 0; attach(0, 0, 0, 0) = 1; map(0, 1) = 2;",
                "write(0, 0, 1) = 0; write(0, 4, 2) = 0; fork(0) = 1; unmap(0, 0) = false; unmap(1, 0) = false;",
                "unmap(0, 1) = false; freeFrames() = 4; exit(0) = 0; freeFrames() = 4; exit(1) = 1;",
                "freeFrames() = 5; frameState(0) = 2; frameState(1) = 0");
    }

    private static void time() {
        Edges.described("The time is 0 at first", "time() = 0; swapRate() = 0.0; start() = 0; map(0, 0) = 1;",
                "createSegment(1) = 0; attach(0, 1, 0, 0) = 2; fork(0) = 1; sync() = 0; setFrames(5) = 6;",
                "setWindow(1) = 8; unmap(1, 0) = false; exit(1) = 0; time() = 0; read(0, 0) = 0; time() = 1");
        Edges.described("Each access (read or write, if it throws no exception)",
                States.SLOTS_FULL_AND_FRAMES_DIRTY, "time() = 28;",
                Edges.refused(Edges.STATE, "read(0, 0)", "write(0, 0, 1)"),
                Edges.refused(Edges.ILLEGAL, "read(1, 48)", "write(1, 48, 1)"),
                Edges.refused(Edges.INDEX, "read(1, 64)", "write(2, 0, 1)"),
                "time() = 28; read(1, 32) = 108; time() = 29; write(1, 32, 108) = 108; time() = 30");
        // At time 6 frame 1 was used one tick ago: outside a window of 0, inside one of 1.
        Edges.described("Each access (read or write, if it throws no exception)",
                States.fourReadAndAFifth(0), Runs.reads(0, 0, 5), "latestUse(1) = 6; isReferenced(0) = true");
        Edges.described("Each access (read or write, if it throws no exception)",
                States.fourReadAndAFifth(1), Runs.reads(0, 0, 5), "latestUse(1) = 6; isReferenced(0) = false");
    }

    private static void uses() {
        Edges.described("Each frame with a content has the time of its latest use",
                "start() = 0; map(0, 0) = 1; latestUse(0) = -1; isReferenced(0) = false; read(0, 0) = 0;",
                "latestUse(0) = 1; isReferenced(0) = true; latestUse(1) = -1; isReferenced(1) = false;",
                "exit(0) = 1; latestUse(0) = -1; isReferenced(0) = false");
        Edges.described("An access uses the frame of the content",
                "start() = 0;", Runs.maps(0, 0, 1), "read(0, 0) = 0; write(0, 4, 1) = 0; latestUse(0) = 1;",
                "latestUse(1) = 2; isReferenced(1) = true; read(0, 0) = 0; latestUse(0) = 3; latestUse(1) = 2;",
                "write(0, 4, 1) = 1; latestUse(1) = 4; latestUse(0) = 3");
        // The clock takes the original's mark away for the copy; only the copy is used at the end.
        Edges.described("An access uses the frame of the content",
                "setFrames(4) = 6; start() = 0;", Runs.maps(0, 0, 3), Runs.writes(0, 0), Runs.reads(0, 0, 1, 2, 3),
                "fork(0) = 1; write(1, 1, 9) = 0; frameOf(0, 0) = 0; isReferenced(0) = false; latestUse(0) = 5;",
                "frameOf(1, 0) = 1; isReferenced(1) = true; latestUse(1) = 5; isReferenced(2) = false");
    }

    /** Start, map and a write, 508 reads, and time as the last call of all. */
    private static void lastCall() {
        PagedMemory memory = new PagedMemory();
        String name = Edges.name(Document.DESCRIPTION, "An object is used for at most 512 calls");
        memory.start();
        memory.map(0, 0);
        memory.write(0, 0, 5);
        int others = 0;
        for (int read = 0; read < 508; read++) {
            others += memory.read(0, 0) == 5 ? 0 : 1;
        }
        Runs.due(name + ", the 508 reads", others, 0);
        Runs.due(name + ", the 512th", memory.time(), 509);
    }
}
