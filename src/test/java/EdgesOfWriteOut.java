/** The Description's sentences on writing out, each seen by sync and some by the clock. */
final class EdgesOfWriteOut {
    private static final String OWNER = "Its owner is a segment if it belongs to one";
    private static final String CLUSTER = "Its cluster begins with it; then come the contents";
    private static final String CONSECUTIVE = "The slots for the cluster are free slots with consecutive numbers";
    private static final String SMALLEST = "Of several such places, the one with the smallest numbers";
    private static final String IN_ORDER = "The contents get these slots in their order";
    private static final String FULL = States.SLOTS_FULL_AND_FRAMES_DIRTY;

    private EdgesOfWriteOut() {
    }

    static void all() {
        owners();
        lengths();
        endsByTheNextPage();
        endsByTheLastPage();
        endsInASegment();
        places();
        shortened();
        orderAndNoSlot();
    }

    /** Page 5 of process 0 is in frame 1: its slot shows how long the cluster of frame 0 was. */
    private static void owners() {
        String forked = "start() = 0; map(0, 0) = 1; map(0, 5) = 2; write(0, 0, 1) = 0; fork(0) = 1; "
                + "write(0, 20, 2) = 0; map(1, 1) = 3; write(1, 4, 3) = 0; ";
        Edges.described(OWNER, forked, "sync() = 3; slotOf(0, 0) = 0; slotOf(0, 5) = 1; slotOf(1, 1) = 2");
        Edges.described(OWNER, forked, "unmap(0, 0) = false; sync() = 3; slotOf(1, 0) = 0; slotOf(1, 1) = 1;",
                "slotOf(0, 5) = 2");
        Edges.described(OWNER, forked, "exit(0) = 1; sync() = 2; slotOf(1, 0) = 0; slotOf(1, 1) = 1");
        // The last process, when all before it have parted from the content.
        Edges.described(OWNER, "setFrames(12) = 6; start() = 0; map(0, 14) = 1; write(0, 56, 1) = 0;",
                Edges.counted("fork(0) = %d", 1, 9), "map(9, 15) = 2; map(0, 0) = 2; write(0, 0, 2) = 0;",
                "write(9, 60, 3) = 0;", Edges.counted("unmap(%d, 14) = false", 0, 8),
                "sync() = 3; slotOf(9, 14) = 0; slotOf(9, 15) = 1; slotOf(0, 0) = 2");
        // A segment's content goes by its indices, whatever the pages are that refer to it, or none.
        Edges.described(OWNER, "createSegment(3) = 0; start() = 0; attach(0, 0, 0, 1) = 1; map(0, 1) = 2;",
                "attach(0, 2, 0, 2) = 3;", Runs.writes(0, 0, 1, 2), "sync() = 3; slotOf(0, 0) = 0;",
                "slotOf(0, 2) = 1; slotOf(0, 1) = 2");
        Edges.described(OWNER, "createSegment(2) = 0; start() = 0; attach(0, 0, 0, 0) = 1; map(0, 5) = 2;",
                "attach(0, 1, 0, 1) = 3;", Runs.writes(0, 0, 5, 1), "unmap(0, 0) = false; unmap(0, 1) = false;",
                "sync() = 3; slotOf(0, 5) = 2; attach(0, 9, 0, 1) = 2; slotOf(0, 9) = 1");
        // Pages of one process with one content: it is in the cluster once.
        Edges.described("A content that would be twice in the cluster ends it",
                "createSegment(2) = 0; start() = 0; attach(0, 0, 0, 0) = 1; attach(0, 1, 0, 0) = 2;",
                "attach(0, 2, 0, 1) = 3; attach(0, 3, 0, 0) = 4; write(0, 0, 1) = 0; write(0, 4, 2) = 1;",
                "write(0, 8, 3) = 0; sync() = 2; slotOf(0, 0) = 0; slotOf(0, 1) = 0; slotOf(0, 2) = 1;",
                "slotOf(0, 3) = 0; freeSlots() = 22; count(5) = 2");
    }

    /** A page in frame 1 stands apart; it gets the slot behind the cluster of frame 0. */
    private static void lengths() {
        for (int pages = 1; pages <= 5; pages++) {
            int inCluster = Math.min(pages, 4);
            StringBuilder rest = new StringBuilder();
            for (int page = 1; page < pages; page++) {
                rest.append(Runs.writes(0, page));
            }
            String due = "sync() = " + (pages + 1) + "; slotOf(0, 0) = 0; slotOf(0, " + (inCluster - 1) + ") = "
                    + (inCluster - 1) + "; slotOf(0, 9) = " + inCluster + "; ";
            Edges.described(CLUSTER, "start() = 0;", Runs.maps(0, 0, 9), Runs.writes(0, 0, 9), rest.toString(), due,
                    pages == 5 ? "slotOf(0, 4) = 5" : "slotOf(0, 4) = -1");
            Edges.described(CLUSTER, "createSegment(6) = 0; start() = 0; attach(0, 0, 0, 0) = 1;",
                    "attach(0, 1, 0, 1) = 2; attach(0, 2, 0, 2) = 3; attach(0, 3, 0, 3) = 4;",
                    "attach(0, 4, 0, 4) = 5; map(0, 9) = 6;", Runs.writes(0, 0, 9), rest.toString(), due);
        }
        // The clock's cluster has at most 4 contents, too: page 4 gets no slot.
        Edges.described(CLUSTER, "start() = 0;", Runs.maps(0, 0, 6), Runs.writes(0, 0, 1, 2, 3, 4, 5, 6),
                "count(5) = 4; slotOf(0, 3) = 3; slotOf(0, 4) = -1; frameOf(0, 0) = -1; frameState(1) = 1");
    }

    private static void endsByTheNextPage() {
        String due = "sync() = 3; slotOf(0, 0) = 0; slotOf(0, 5) = 1; slotOf(0, 2) = 2; ";
        Edges.described(CLUSTER, "start() = 0; map(0, 0) = 1; map(0, 2) = 2; map(0, 5) = 3;",
                Runs.writes(0, 0, 5, 2), due, "mapping(0, 1) = 0");
        Edges.described(CLUSTER, "start() = 0;", Runs.maps(0, 0, 5), Runs.writes(0, 0, 5, 2), due,
                "frameOf(0, 1) = -1; slotOf(0, 1) = -1");
        Edges.described(CLUSTER, "start() = 0;", Runs.maps(0, 0, 5), Runs.writes(0, 0, 5), Runs.reads(0, 0, 1),
                Runs.writes(0, 2), due, "frameState(2) = 1; slotOf(0, 1) = -1");
        Edges.described(CLUSTER, "createSegment(1) = 0; start() = 0; map(0, 0) = 1; attach(0, 1, 0, 0) = 2;",
                "map(0, 2) = 3; map(0, 5) = 4;", Runs.writes(0, 0, 5, 2, 1), "sync() = 4; slotOf(0, 0) = 0;",
                "slotOf(0, 5) = 1; slotOf(0, 2) = 2; slotOf(0, 1) = 3");
        // Page 1 is clean and has a slot, in a frame or not.
        Edges.described(CLUSTER, "start() = 0;", Runs.maps(0, 0, 5), Runs.writes(0, 1), "sync() = 1;",
                Runs.writes(0, 0, 5, 2), "frameOf(0, 1) = 0; sync() = 3; slotOf(0, 1) = 0; slotOf(0, 0) = 1;",
                "slotOf(0, 5) = 2; slotOf(0, 2) = 3");
        Edges.described(CLUSTER, States.FOUR_IN_SLOTS, "unmap(0, 0) = true; unmap(0, 2) = true; map(0, 0) = 3;",
                "map(0, 2) = 4; map(0, 9) = 5;", Runs.writes(0, 0, 9, 2), "frameOf(0, 1) = -1; slotOf(0, 1) = 1;",
                "sync() = 3; slotOf(0, 0) = 0; slotOf(0, 9) = 2; slotOf(0, 2) = 4");
    }

    private static void endsByTheLastPage() {
        // Neither page 0 of the process nor that of the next one is behind page 15.
        Edges.described(CLUSTER, "start() = 0; start() = 1; map(0, 15) = 1; map(0, 5) = 2; map(0, 0) = 3;",
                "map(1, 0) = 1;", Runs.writes(0, 15, 5, 0), Runs.writes(1, 0), "sync() = 4; slotOf(0, 15) = 0;",
                "slotOf(0, 5) = 1; slotOf(0, 0) = 2; slotOf(1, 0) = 3");
        Edges.described(CLUSTER, "start() = 0; start() = 1; map(0, 14) = 1; map(0, 15) = 2; map(0, 5) = 3;",
                "map(1, 0) = 1;", Runs.writes(0, 14, 5, 15), Runs.writes(1, 0), "sync() = 4; slotOf(0, 14) = 0;",
                "slotOf(0, 15) = 1; slotOf(0, 5) = 2; slotOf(1, 0) = 3");
        // The last process of all, at its last page.
        Edges.described(CLUSTER, Edges.counted("start() = %d", 0, 9), "map(9, 15) = 1; map(9, 0) = 2;",
                "map(0, 0) = 1;", Runs.writes(9, 15, 0), Runs.writes(0, 0), "sync() = 3; slotOf(9, 15) = 0;",
                "slotOf(9, 0) = 1; slotOf(0, 0) = 2");
    }

    private static void endsInASegment() {
        // The last index: neither index 0 nor the next segment is behind it, and no page of the process.
        for (int size : new int[] {2, 5, 6}) {
            Edges.described(CLUSTER, "createSegment(" + size + ") = 0; createSegment(1) = 1; start() = 0;",
                    "attach(0, 0, 0, " + (size - 1) + ") = 1; attach(0, 1, 1, 0) = 2; attach(0, 2, 0, 0) = 3;",
                    "map(0, 5) = 4;", Runs.writes(0, 0, 5, 1, 2), "sync() = 4; slotOf(0, 0) = 0; slotOf(0, 5) = 1;",
                    "slotOf(0, 1) = 2; slotOf(0, 2) = 3");
        }
        Edges.described(CLUSTER, "createSegment(6) = 0; createSegment(6) = 1; createSegment(6) = 2;",
                "createSegment(6) = 3; start() = 0; attach(0, 0, 3, 4) = 1; attach(0, 1, 3, 5) = 2;",
                "attach(0, 2, 0, 0) = 3; map(0, 5) = 4;", Runs.writes(0, 0, 5, 1, 2), "sync() = 4;",
                "slotOf(0, 0) = 0; slotOf(0, 1) = 1; slotOf(0, 5) = 2; slotOf(0, 2) = 3");
        // A blank index and a clean one end it.
        String three = "createSegment(3) = 0; start() = 0; attach(0, 0, 0, 0) = 1; attach(0, 1, 0, 1) = 2; "
                + "attach(0, 2, 0, 2) = 3; map(0, 5) = 4; ";
        Edges.described(CLUSTER, three, Runs.writes(0, 0, 5, 2), "sync() = 3; slotOf(0, 0) = 0; slotOf(0, 5) = 1;",
                "slotOf(0, 2) = 2; slotOf(0, 1) = -1");
        Edges.described(CLUSTER, three, Runs.writes(0, 0, 5), Runs.reads(0, 0, 1), Runs.writes(0, 2),
                "sync() = 3; slotOf(0, 0) = 0; slotOf(0, 5) = 1; slotOf(0, 2) = 2; slotOf(0, 1) = -1");
    }

    /** The cluster has the pages 8 to 11 of process 1; unmapped pages leave their slots free. */
    private static void places() {
        Edges.described(CONSECUTIVE, FULL, "unmap(0, 0) = true; unmap(0, 1) = true; unmap(0, 2) = true;",
                "unmap(0, 4) = true; unmap(0, 5) = true; unmap(0, 6) = true; unmap(0, 7) = true; sync() = 4;",
                "slotOf(1, 8) = 4; slotOf(1, 9) = 5; slotOf(1, 10) = 6; slotOf(1, 11) = 7; freeSlots() = 3");
        // The last slots, just as many as are needed.
        Edges.described(CONSECUTIVE, FULL, Edges.counted("unmap(1, %d) = true", 4, 7), "sync() = 4;",
                "slotOf(1, 8) = 20; slotOf(1, 11) = 23; freeSlots() = 0");
        // Slot 0 is not behind slot 23.
        Edges.described(CONSECUTIVE, FULL, "unmap(1, 6) = true; unmap(1, 7) = true; unmap(0, 0) = true;",
                "unmap(0, 1) = true; sync() = 4; slotOf(1, 8) = 0; slotOf(1, 9) = 1; slotOf(1, 10) = 22;",
                "slotOf(1, 11) = 23");
        Edges.described(SMALLEST, FULL, Edges.counted("unmap(0, %d) = true", 2, 5),
                Edges.counted("unmap(0, %d) = true", 9, 13), Edges.counted("unmap(1, %d) = true", 4, 7),
                "sync() = 4; slotOf(1, 8) = 2; slotOf(1, 11) = 5; freeSlots() = 9");
        // In a place that is longer than needed, its smallest numbers.
        Edges.described(SMALLEST, FULL, Edges.counted("unmap(0, %d) = true", 9, 14), "sync() = 4;",
                "slotOf(1, 8) = 9; slotOf(1, 11) = 12; freeSlots() = 2");
        // A longer place in front goes before one that fits.
        Edges.described(SMALLEST, FULL, Edges.counted("unmap(0, %d) = true", 0, 4),
                Edges.counted("unmap(0, %d) = true", 6, 9), "sync() = 4; slotOf(1, 8) = 0; slotOf(1, 11) = 3");
        Edges.described(SMALLEST, FULL, "exit(0) = 16; sync() = 4;", "slotOf(1, 8) = 0; slotOf(1, 11) = 3");
    }

    private static void shortened() {
        // To three: the place of three behind shorter ones; the last content then gets the first slot.
        Edges.described(CONSECUTIVE, FULL, "unmap(0, 0) = true; unmap(0, 3) = true; unmap(0, 4) = true;",
                "unmap(0, 7) = true; unmap(0, 8) = true; unmap(0, 9) = true; sync() = 4; slotOf(1, 8) = 7;",
                "slotOf(1, 9) = 8; slotOf(1, 10) = 9; slotOf(1, 11) = 0; freeSlots() = 2");
        // To two, and those that were left out have the next place of two.
        Edges.described(CONSECUTIVE, FULL, "unmap(0, 0) = true; unmap(0, 3) = true; unmap(0, 4) = true;",
                "unmap(0, 14) = true; unmap(0, 15) = true; sync() = 4; slotOf(1, 8) = 3; slotOf(1, 9) = 4;",
                "slotOf(1, 10) = 14; slotOf(1, 11) = 15; freeSlots() = 1");
        // To one, at either end of the swap area.
        Edges.described(CONSECUTIVE, FULL, "unmap(0, 0) = true; sync() = 1; slotOf(1, 8) = 0; slotOf(1, 9) = -1;",
                "frameState(0) = 1; frameState(1) = 2; freeSlots() = 0");
        Edges.described(CONSECUTIVE, FULL, "unmap(1, 7) = true; sync() = 1; slotOf(1, 8) = 23; slotOf(1, 9) = -1");
        // The clock's cluster is shortened, too: the frames that are left out stay dirty.
        Edges.described(CONSECUTIVE, FULL, "unmap(0, 5) = true; unmap(0, 6) = true; read(0, 0) = 100; count(5) = 26;",
                "slotOf(1, 8) = 5; slotOf(1, 9) = 6; slotOf(1, 10) = -1; frameState(1) = 1; frameState(2) = 2;",
                "frameOf(0, 0) = 0");
    }

    private static void orderAndNoSlot() {
        Edges.described(IN_ORDER, "start() = 0;", Runs.maps(0, 0, 5), Runs.writes(0, 1, 4, 3, 2, 5, 0),
                "frameOf(0, 0) = 5; sync() = 6; slotOf(0, 1) = 0; slotOf(0, 2) = 1; slotOf(0, 3) = 2;",
                "slotOf(0, 4) = 3; slotOf(0, 5) = 4; slotOf(0, 0) = 5;", Edges.counted("frameState(%d) = 1", 0, 5),
                "latestUse(0) = 1; isReferenced(0) = true; frameOf(0, 1) = 0; sync() = 0");
        Edges.described("If no slot is free, nothing is written", FULL, "sync() = 0; count(5) = 24;",
                Edges.counted("frameState(%d) = 2", 0, 3), "slotOf(1, 8) = -1; unmap(0, 9) = true; sync() = 1;",
                "slotOf(1, 8) = 9; sync() = 0; count(5) = 25; slotOf(1, 9) = -1");
    }
}
