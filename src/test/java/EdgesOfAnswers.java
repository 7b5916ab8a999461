/** Promises 16 to 29: what can be asked. */
final class EdgesOfAnswers {
    private static final String NO_PROCESS = "Throws IndexOutOfBoundsException if no such process";
    private static final String NO_FRAME = "Throws IndexOutOfBoundsException if there is no such frame";
    private static final String TWO = "start() = 0; start() = 1; map(0, 15) = 1; map(1, 0) = 1; ";
    private static final String FULL = States.SLOTS_FULL_AND_FRAMES_DIRTY;

    private EdgesOfAnswers() {
    }

    static void all() {
        timeAndHand();
        frameOfAndSlotOf();
        sharersOf();
        frames();
        freeOnes();
        workingSet();
        count();
        swapRate();
        digest();
    }

    private static void timeAndHand() {
        Edges.promised(16, "Returns the time", "time() = 0;", TWO, "time() = 0; read(0, 63) = 0; time() = 1;",
                "sync() = 0; write(1, 0, 1) = 0; sync() = 1; time() = 2;", Edges.refused(Edges.INDEX, "read(0, 64)"),
                "time() = 2");
        Edges.promised(17, "Returns the frame at which the hand is", "hand() = 0;", States.fourReadAndAFifth(8),
                Runs.reads(0, 0, 5), "hand() = 2;", Runs.reads(0, 0, 6), "hand() = 3;", Runs.reads(0, 0, 0),
                "hand() = 0; sync() = 0; hand() = 0;", Runs.reads(0, 0, 1), "hand() = 1; exit(0) = 7; hand() = 1;",
                "setFrames(4) = 4; hand() = 0");
    }

    private static String wrongPages(String method) {
        return Edges.refused(Edges.INDEX, method + "(0, 0)") + TWO
                + Edges.refusedWith(Edges.INDEX, method + "(%d, 0)", Edges.NO_PROCESSES)
                + Edges.refusedWith(Edges.INDEX, method + "(0, %d)", Edges.NO_PAGES) + "exit(0) = 1; "
                + Edges.refusedWith(Edges.INDEX, method + "(0, %d)", Edges.NO_PAGES);
    }

    private static void frameOfAndSlotOf() {
        Edges.promised(18, "Returns the frame of the content of the page", "setFrames(12) = 6; start() = 0;",
                Runs.maps(0, 0, 12), "frameOf(0, 0) = -1; frameOf(0, 15) = -1;",
                Runs.reads(0, 0, 0, 1, 2, 3, 4, 5, 6, 7, 8, 9, 10, 11), "frameOf(0, 0) = 0; frameOf(0, 11) = 11;",
                Runs.reads(0, 0, 12), "frameOf(0, 0) = -1; frameOf(0, 12) = 0; unmap(0, 12) = true;",
                "frameOf(0, 12) = -1; exit(0) = 12; frameOf(0, 11) = -1");
        Edges.promised(18, NO_PROCESS, wrongPages("frameOf"), "frameOf(0, 15) = -1; frameOf(1, 0) = -1");
        Edges.promised(19, "Returns the slot of the content of the page", FULL, "slotOf(0, 0) = 0; slotOf(1, 7) = 23;",
                "slotOf(1, 8) = -1; slotOf(1, 15) = -1; unmap(1, 7) = true; slotOf(1, 7) = -1; map(1, 15) = 12;",
                "slotOf(1, 15) = -1; exit(0) = 16; slotOf(0, 0) = -1; slotOf(0, 15) = -1");
        Edges.promised(19, NO_PROCESS, wrongPages("slotOf"), "slotOf(0, 15) = -1; slotOf(1, 0) = -1");
    }

    private static void sharersOf() {
        Edges.promised(20, "Returns how many pages of live processes refer", "createSegment(1) = 0; start() = 0;",
                "sharersOf(0, 0) = 0;", States.attachedToOneContent(0), Edges.counted("fork(0) = %d", 1, 9),
                "sharersOf(0, 0) = 160; sharersOf(9, 15) = 160; exit(9) = 0; sharersOf(0, 0) = 144;",
                "sharersOf(9, 15) = 0; unmap(8, 15) = false; sharersOf(8, 15) = 0; sharersOf(8, 14) = 143");
        Edges.promised(20, "Returns how many pages of live processes refer", "start() = 0; map(0, 0) = 1;",
                "sharersOf(0, 0) = 1; sharersOf(0, 1) = 0;", Edges.counted("fork(0) = %d", 1, 9),
                "sharersOf(9, 0) = 10; write(9, 0, 1) = 0; sharersOf(9, 0) = 1; sharersOf(0, 0) = 9;",
                "exit(0) = 0; sharersOf(0, 0) = 0; sharersOf(1, 0) = 8");
        Edges.promised(20, NO_PROCESS, wrongPages("sharersOf"), "sharersOf(0, 15) = 0; sharersOf(1, 0) = 1");
    }

    private static String wrongFrames(String method, String free) {
        String ask = method + "(%d)";
        return Edges.refusedWith(Edges.INDEX, ask, -1, 6, 7, 11, 12, Edges.LEAST, Edges.MOST)
                + method + "(0) = " + free + "; " + method + "(5) = " + free + "; setFrames(4) = 6; "
                + method + "(3) = " + free + "; " + Edges.refusedWith(Edges.INDEX, ask, -1, 4, 5)
                + "setFrames(12) = 4; " + method + "(11) = " + free + "; "
                + Edges.refusedWith(Edges.INDEX, ask, -1, 12, 13);
    }

    private static void frames() {
        Edges.promised(21, "Returns 0 if it is free, 1 if its content is clean", "frameState(0) = 0;",
                "frameState(5) = 0;", TWO, "read(0, 63) = 0; frameState(0) = 1; write(1, 0, 0) = 0; frameState(1) = 2;",
                "frameState(2) = 0; sync() = 1; frameState(1) = 1; exit(0) = 1; frameState(0) = 0; frameState(1) = 1");
        Edges.promised(21, NO_FRAME, wrongFrames("frameState", "0"));
        Edges.promised(22, "Returns the time of its latest use", "latestUse(0) = -1; latestUse(5) = -1;", TWO,
                "read(0, 63) = 0; latestUse(0) = 1; latestUse(1) = -1; write(1, 0, 0) = 0; latestUse(1) = 2;",
                "latestUse(0) = 1; exit(0) = 1; latestUse(0) = -1; latestUse(1) = 2");
        Edges.promised(22, NO_FRAME, wrongFrames("latestUse", "-1"));
        Edges.promised(23, "Returns whether it is marked", "isReferenced(0) = false; isReferenced(5) = false;", TWO,
                "read(0, 63) = 0; isReferenced(0) = true; isReferenced(1) = false; exit(0) = 1;",
                "isReferenced(0) = false");
        Edges.promised(23, "Returns whether it is marked", States.fourReadAndAFifth(8), "isReferenced(0) = true;",
                Edges.counted("isReferenced(%d) = false", 1, 3), "read(0, 12) = 0; isReferenced(3) = true");
        Edges.promised(23, NO_FRAME, wrongFrames("isReferenced", "false"));
    }

    private static void freeOnes() {
        Edges.promised(24, "Returns the number of free frames", "freeFrames() = 6; setFrames(12) = 6;",
                "freeFrames() = 12; setFrames(4) = 12; freeFrames() = 4; start() = 0;", Runs.maps(0, 0, 4),
                "freeFrames() = 4;",
                Runs.reads(0, 0, 0), "freeFrames() = 3;", Runs.reads(0, 0, 1, 2, 3), "freeFrames() = 0;",
                Runs.reads(0, 0, 4), "freeFrames() = 0; unmap(0, 0) = true; freeFrames() = 0; unmap(0, 4) = true;",
                "freeFrames() = 1; exit(0) = 3; freeFrames() = 4");
        Edges.promised(25, "Returns the number of free slots", "freeSlots() = 24;", FULL, "freeSlots() = 0;",
                "unmap(1, 11) = true; freeSlots() = 0; unmap(1, 7) = true; freeSlots() = 1; read(0, 0) = 100;",
                "freeSlots() = 1; write(0, 0, 1) = 100; freeSlots() = 2; exit(1) = 10; freeSlots() = 9;",
                "exit(0) = 16; freeSlots() = 24");
    }

    private static void workingSet() {
        String set = "Returns how many of its pages have a content in a frame";
        for (int window : new int[] {0, 1, 8, 50}) {
            Edges.promised(26, set, "setWindow(" + window + ") = 8;", TWO, "workingSet(0) = 0; read(0, 60) = 0;",
                    Runs.repeated("read(1, 0) = 0", window), "workingSet(0) = 1; read(1, 0) = 0; workingSet(0) = 0;",
                    "workingSet(1) = 1");
        }
        Edges.promised(26, set, "createSegment(1) = 0; start() = 0;", States.attachedToOneContent(0), "fork(0) = 1;",
                "workingSet(0) = 0; read(0, 63) = 0; workingSet(0) = 16; workingSet(1) = 16; unmap(1, 15) = false;",
                "workingSet(1) = 15; exit(0) = 0; workingSet(0) = 0; workingSet(1) = 15");
        // A prefetched content is in it, though nobody has used it; one in a slot alone is not.
        Edges.promised(26, set, States.FOUR_IN_SLOTS, "setWindow(0) = 8; workingSet(0) = 0; read(0, 8) = 102;",
                "count(3) = 1; workingSet(0) = 2; read(0, 8) = 102; workingSet(0) = 1");
        Edges.promised(26, NO_PROCESS, Edges.refused(Edges.INDEX, "workingSet(0)"), TWO,
                Edges.refusedWith(Edges.INDEX, "workingSet(%d)", Edges.NO_PROCESSES), "exit(1) = 1; workingSet(1) = 0;",
                Edges.refused(Edges.INDEX, "workingSet(2)"));
    }

    private static void count() {
        String kinds = "- kind: 0 zero fills, 1 swap-ins, 2 copies, 3 prefetches, 4 evictions, 5 contents";
        Edges.promised(27, kinds, States.FOUR_IN_SLOTS, "count(0) = 8; count(1) = 0; count(2) = 0; count(3) = 0;",
                "count(4) = 4; count(5) = 4; fork(0) = 2; write(2, 5, 1) = 0; count(0) = 8; count(1) = 1;",
                "count(2) = 1; count(3) = 2; count(4) = 4; count(5) = 4; read(0, 0) = 100; count(1) = 2; count(4) = 5;",
                "count(3) = 2");
        // Refused calls are not counted, nor are contents that vanish; setFrames leaves the counts alone.
        Edges.promised(27, "Returns how many there were from the beginning on", States.FOUR_IN_SLOTS, "exit(0) = 4;",
                Edges.refused(Edges.GONE, "read(0, 0)"), "setFrames(12) = 4; count(0) = 8; count(4) = 4; count(5) = 4;",
                "start() = 2; map(2, 0) = 1; write(2, 0, 1) = 0; sync() = 1; count(0) = 9; count(5) = 5; exit(2) = 1;",
                "count(0) = 9; count(4) = 4; count(5) = 5");
        Edges.promised(27, "Throws IndexOutOfBoundsException if kind is not 0 to 5",
                Edges.refusedWith(Edges.INDEX, "count(%d)", -1, 6, 7, Edges.LEAST, Edges.MOST),
                Edges.counted("count(%d) = 0", 0, 5));
    }

    private static void swapRate() {
        String rate = "Returns the swap-ins, divided by the time";
        Edges.promised(28, rate, "swapRate() = 0.0; start() = 0; map(0, 0) = 1; swapRate() = 0.0; read(0, 0) = 0;",
                "swapRate() = 0.0");
        Edges.promised(28, rate, States.FOUR_IN_SLOTS, "swapRate() = 0.0; read(0, 12) = 103;",
                "swapRate() = 0.1111111111111111; read(0, 0) = 100; swapRate() = 0.2; read(0, 0) = 100;",
                "swapRate() = 0.18181818181818182; read(0, 0) = 100; swapRate() = 0.16666666666666666;",
                "read(0, 0) = 100; swapRate() = 0.15384615384615385; read(0, 0) = 100;",
                "swapRate() = 0.14285714285714285");
    }

    /** The sums were reckoned apart from any Java, from the states that the document tells. */
    private static void digest() {
        Edges.promised(29, "Returns d", "digest() = 123067237027313339; setFrames(4) = 6;",
                "digest() = 8744829304668244315; setFrames(12) = 4; digest() = 9202524986971311835");
        String wraps = "Computes a checksum. A number d starts with 67";
        Edges.promised(29, wraps, Edges.counted("start() = %d", 0, 9), "exit(9) = 0; digest() = -1016135961502612750;",
                Edges.refused(Edges.STATE, "start()"), "digest() = -1016135961502612750");
        Edges.promised(29, wraps, "start() = 0; map(0, 2) = 1; write(0, 8, 5) = 0; fork(0) = 1; write(1, 9, 6) = 0;",
                "read(0, 9) = 0; read(1, 8) = 5; digest() = -6071682388309604333");
        Edges.promised(29, wraps, "setFrames(4) = 6; start() = 0;", Runs.maps(0, 0, 4), Runs.writes(0, 0, 1, 2, 3, 4),
                "digest() = 7912815600128589046; digest() = 7912815600128589046");
        Edges.promised(29, wraps, "createSegment(2) = 0; start() = 0; start() = 1; attach(0, 0, 0, 1) = 1;",
                "attach(1, 7, 0, 1) = 1; write(0, 3, 9) = 0; read(1, 31) = 9; exit(0) = 0; read(1, 31) = 9;",
                "digest() = 4012803599654243986");
    }
}
