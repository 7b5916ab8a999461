/** Promises 1 to 12: the settings, processes, pages and segments. */
final class EdgesOfPages {
    private static final String NO_PROCESS = "Throws IndexOutOfBoundsException if no such process";
    private static final String EXITED = "Throws NoSuchElementException if the process has exited";
    private static final String TWO = "start() = 0; start() = 1; map(1, 0) = 1; ";

    private EdgesOfPages() {
    }

    static void all() {
        newObject();
        setFrames();
        setWindow();
        start();
        fork();
        exit();
        map();
        createSegment();
        attach();
        attachRefused();
        unmap();
        isLiveAndMapping();
    }

    private static void newObject() {
        Edges.promised(1, "Creates a memory with 6 frames", "freeFrames() = 6; freeSlots() = 24; time() = 0;",
                "hand() = 0; swapRate() = 0.0; sync() = 0;", Edges.counted("count(%d) = 0", 0, 5),
                Edges.counted("frameState(%d) = 0", 0, 5), Edges.counted("latestUse(%d) = -1", 0, 5),
                Edges.counted("isReferenced(%d) = false", 0, 5),
                Edges.refused(Edges.INDEX, "frameState(6)", "isLive(0)", "mapping(0, 0)", "fork(0)", "workingSet(0)"),
                "start() = 0;", Edges.refused(Edges.INDEX, "attach(0, 0, 0, 0)", "isLive(1)"),
                "createSegment(1) = 0; setFrames(4) = 6; setWindow(0) = 8");
    }

    private static void setFrames() {
        Edges.promised(2, "Sets the number of frames", "setFrames(12) = 6; freeFrames() = 12; start() = 0;",
                "start() = 1;", Runs.maps(0, 0, 12), Runs.reads(0, 0, 0, 1, 2, 3, 4, 5, 6, 7, 8, 9, 10, 11, 12),
                "hand() = 1; exit(0) = 13; hand() = 1; setFrames(12) = 12; hand() = 0; setFrames(4) = 12;",
                "freeFrames() = 4;", Runs.maps(1, 0, 4), Runs.reads(1, 0, 0, 1, 2, 3, 4),
                "frameOf(1, 4) = 0; hand() = 1");
        Edges.promised(2, "- frames: the number, 4 to 12", "setFrames(4) = 6; frameState(3) = 0;",
                Edges.refused(Edges.INDEX, "frameState(4)"), "setFrames(12) = 4; frameState(11) = 0;",
                Edges.refused(Edges.INDEX, "frameState(12)"), "setFrames(5) = 12; setFrames(11) = 5");
        Edges.promised(2, "Returns the number before", "setFrames(6) = 6; setFrames(4) = 6; setFrames(4) = 4;",
                "setFrames(12) = 4; setFrames(12) = 12; setFrames(6) = 12");
        Edges.promised(2, "Throws IllegalArgumentException",
                Edges.refusedWith(Edges.ILLEGAL, "setFrames(%d)", 3, 13, 0, -1, -4, Edges.LEAST, Edges.MOST),
                "freeFrames() = 6; setFrames(4) = 6;", Edges.refusedWith(Edges.ILLEGAL, "setFrames(%d)", 3, 13),
                "setFrames(12) = 4");
        // One content is enough, in the last frame, clean and without a page.
        Edges.promised(2, "Throws IllegalStateException", "createSegment(1) = 0; start() = 0; attach(0, 9, 0, 0) = 1;",
                "map(0, 0) = 2; map(0, 1) = 3; map(0, 2) = 4; map(0, 3) = 5; map(0, 4) = 6; setFrames(6) = 6;",
                Runs.reads(0, 0, 0, 1, 2, 3, 4, 9), "frameOf(0, 9) = 5; exit(0) = 5; freeFrames() = 5;",
                Edges.refusedWith(Edges.STATE, "setFrames(%d)", 4, 5, 6, 7, 12));
        // A blank content and one in a slot alone are in no frame.
        Edges.promised(2, "Throws IllegalStateException", States.FOUR_IN_SLOTS, "map(0, 9) = 5; setFrames(12) = 4;",
                "setFrames(4) = 12; read(0, 0) = 100;", Edges.refused(Edges.STATE, "setFrames(4)"));
    }

    private static void setWindow() {
        Edges.promised(3, "Sets the window", "start() = 0;", Runs.maps(0, 0, 1), Runs.reads(0, 0, 0, 1, 1, 1),
                "setWindow(3) = 8; workingSet(0) = 2; setWindow(2) = 3; workingSet(0) = 1; setWindow(0) = 2;",
                "workingSet(0) = 1; setWindow(50) = 0; workingSet(0) = 2");
        Edges.promised(3, "- window: the window, 0 to 50", "setWindow(0) = 8; setWindow(1) = 0; setWindow(49) = 1;",
                "setWindow(50) = 49; setWindow(0) = 50");
        Edges.promised(3, "Returns the window before", "setWindow(8) = 8; setWindow(50) = 8; setWindow(50) = 50;",
                "setWindow(0) = 50; setWindow(0) = 0");
        Edges.promised(3, "Throws IllegalArgumentException",
                Edges.refusedWith(Edges.ILLEGAL, "setWindow(%d)", -1, 51, 100, Edges.LEAST, Edges.MOST),
                "setWindow(50) = 8;", Edges.refusedWith(Edges.ILLEGAL, "setWindow(%d)", 51, -1), "setWindow(0) = 50");
    }

    private static void start() {
        Edges.promised(4, "Creates a process without mapped pages", "start() = 0; map(0, 0) = 1; map(0, 15) = 2;",
                "start() = 1;", Edges.counted("mapping(1, %d) = 0", 0, 15), "isLive(1) = true; workingSet(1) = 0;",
                "exit(1) = 0; mapping(0, 15) = 1");
        Edges.promised(4, "Returns the number of the process", Edges.counted("start() = %d", 0, 4), "exit(4) = 0;",
                Edges.counted("start() = %d", 5, 9));
        Edges.promised(4, "Throws IllegalStateException", Edges.counted("start() = %d", 0, 9),
                Edges.refused(Edges.STATE, "start()"), "exit(0) = 0; exit(9) = 0;",
                Edges.refused(Edges.STATE, "start()", "start()"), Edges.refused(Edges.INDEX, "isLive(10)"));
    }

    private static void fork() {
        Edges.promised(5, "Creates a process whose pages are mapped like", "createSegment(1) = 0; start() = 0;",
                "map(0, 0) = 1; attach(0, 15, 0, 0) = 2; write(0, 0, 4) = 0; write(0, 63, 5) = 0; sync() = 2;",
                "fork(0) = 1; mapping(1, 0) = 1; mapping(1, 15) = 2;", Edges.counted("mapping(1, %d) = 0", 1, 14),
                "frameOf(1, 0) = 0; slotOf(1, 0) = 0; frameOf(1, 15) = 1; slotOf(1, 15) = 1; sharersOf(0, 0) = 2;",
                "sharersOf(1, 15) = 2; freeFrames() = 4; read(1, 0) = 4; read(1, 63) = 5; map(0, 7) = 3;",
                "mapping(1, 7) = 0; unmap(1, 0) = false; mapping(0, 0) = 1");
        Edges.promised(5, "Creates a process whose pages are mapped like", "start() = 0; fork(0) = 1;",
                Edges.counted("mapping(1, %d) = 0", 0, 15), "exit(1) = 0; isLive(0) = true");
        Edges.promised(5, "Returns the number of the new process", "start() = 0;",
                Edges.counted("fork(0) = %d", 1, 8), "fork(8) = 9");
        Edges.promised(5, NO_PROCESS, Edges.refused(Edges.INDEX, "fork(0)"), TWO,
                Edges.refusedWith(Edges.INDEX, "fork(%d)", Edges.NO_PROCESSES), "fork(1) = 2; fork(2) = 3");
        Edges.promised(5, EXITED, "start() = 0; start() = 1; exit(0) = 0;", Edges.refused(Edges.GONE, "fork(0)"),
                "fork(1) = 2; exit(2) = 0;", Edges.refused(Edges.GONE, "fork(2)"), "start() = 3");
        Edges.promised(5, "Throws IllegalStateException", "start() = 0;", Edges.counted("fork(0) = %d", 1, 9),
                Edges.refused(Edges.STATE, "fork(0)", "fork(9)"), "exit(5) = 0;",
                Edges.refused(Edges.STATE, "fork(9)"));
    }

    private static void exit() {
        Edges.promised(6, "Ends a process: all its pages become unmapped", "createSegment(1) = 0; start() = 0;",
                Runs.maps(0, 0, 14), "attach(0, 15, 0, 0) = 16; write(0, 0, 1) = 0; write(0, 63, 1) = 0; exit(0) = 15;",
                Edges.counted("mapping(0, %d) = 0", 0, 15), "isLive(0) = false; frameOf(0, 0) = -1;",
                "sharersOf(0, 15) = 0; workingSet(0) = 0; freeFrames() = 5; time() = 2");
        Edges.promised(6, "Returns how many contents vanish", "start() = 0; exit(0) = 0; start() = 1;",
                Runs.maps(1, 0, 15), "exit(1) = 16; start() = 2;", Runs.maps(2, 0, 15), "fork(2) = 3;",
                "write(3, 0, 1) = 0; unmap(2, 15) = false; exit(3) = 2; exit(2) = 15");
        // Blank, in a frame, in both places and in a slot alone: all of them count.
        Edges.promised(6, "Returns how many contents vanish", States.SLOTS_FULL_AND_FRAMES_DIRTY, "map(1, 12) = 13;",
                "unmap(0, 0) = true; sync() = 1; exit(1) = 13; freeFrames() = 4; freeSlots() = 9; exit(0) = 15;",
                "freeSlots() = 24");
        Edges.promised(6, NO_PROCESS, Edges.refused(Edges.INDEX, "exit(0)"), TWO,
                Edges.refusedWith(Edges.INDEX, "exit(%d)", Edges.NO_PROCESSES), "exit(1) = 1; exit(0) = 0");
        Edges.promised(6, EXITED, "start() = 0; start() = 1; exit(1) = 0;",
                Edges.refused(Edges.GONE, "exit(1)", "exit(1)"), "exit(0) = 0;", Edges.refused(Edges.GONE, "exit(0)"));
    }

    private static void map() {
        Edges.promised(7, "Maps a page as a private one, with a new content", "start() = 0; map(0, 0) = 1;",
                "write(0, 0, 9) = 0; sync() = 1; unmap(0, 0) = true; map(0, 0) = 1; mapping(0, 0) = 1;",
                "frameOf(0, 0) = -1; slotOf(0, 0) = -1; sharersOf(0, 0) = 1; freeFrames() = 6; read(0, 0) = 0");
        Edges.promised(7, "Returns the number of mapped pages", "createSegment(1) = 0; start() = 0; map(0, 15) = 1;",
                "attach(0, 0, 0, 0) = 2; unmap(0, 15) = true; unmap(0, 0) = false;", Runs.maps(0, 0, 15));
        Edges.promised(7, NO_PROCESS, Edges.refused(Edges.INDEX, "map(0, 0)"), TWO,
                Edges.refusedWith(Edges.INDEX, "map(%d, 1)", Edges.NO_PROCESSES),
                Edges.refusedWith(Edges.INDEX, "map(0, %d)", Edges.NO_PAGES), "map(0, 0) = 1; map(0, 15) = 2");
        Edges.promised(7, EXITED, TWO, "exit(1) = 1;", Edges.refused(Edges.GONE, "map(1, 0)", "map(1, 15)"),
                "map(0, 0) = 1");
        Edges.promised(7, "Throws IllegalArgumentException", "createSegment(1) = 0; start() = 0; map(0, 0) = 1;",
                "attach(0, 15, 0, 0) = 2;", Edges.refused(Edges.ILLEGAL, "map(0, 0)", "map(0, 15)"), "fork(0) = 1;",
                Edges.refused(Edges.ILLEGAL, "map(1, 0)", "map(1, 15)"), "map(0, 1) = 3; map(1, 14) = 3");
    }

    private static void createSegment() {
        Edges.promised(8, "Creates a segment", "createSegment(1) = 0; start() = 0; attach(0, 0, 0, 0) = 1;",
                "frameOf(0, 0) = -1; slotOf(0, 0) = -1; sharersOf(0, 0) = 1; freeFrames() = 6; freeSlots() = 24;",
                "read(0, 3) = 0; count(0) = 1");
        Edges.promised(8, "- size: the number of its contents, 1 to 6", "createSegment(1) = 0; createSegment(6) = 1;",
                "start() = 0; attach(0, 0, 0, 0) = 1; attach(0, 1, 1, 5) = 2;",
                Edges.refused(Edges.INDEX, "attach(0, 2, 0, 1)", "attach(0, 2, 1, 6)"));
        Edges.promised(8, "Returns the number of the segment", "createSegment(6) = 0; createSegment(5) = 1;",
                "createSegment(2) = 2; createSegment(1) = 3");
        Edges.promised(8, "Throws IllegalArgumentException",
                Edges.refusedWith(Edges.ILLEGAL, "createSegment(%d)", 0, 7, -1, Edges.LEAST, Edges.MOST),
                "createSegment(1) = 0; createSegment(6) = 1;",
                Edges.refusedWith(Edges.ILLEGAL, "createSegment(%d)", 0, 7));
        Edges.promised(8, "Throws IllegalStateException", "createSegment(1) = 0; createSegment(1) = 1;",
                "createSegment(1) = 2; createSegment(1) = 3;",
                Edges.refusedWith(Edges.STATE, "createSegment(%d)", 1, 2, 3, 4, 5, 6));
    }

    private static void attach() {
        Edges.promised(9, "Maps a page as a shared one", "createSegment(6) = 0; createSegment(6) = 1; start() = 0;",
                "attach(0, 0, 0, 5) = 1; attach(0, 15, 1, 0) = 2; attach(0, 7, 0, 5) = 3; mapping(0, 0) = 2;",
                "mapping(0, 15) = 2; sharersOf(0, 0) = 2; sharersOf(0, 15) = 1; write(0, 0, 3) = 0; read(0, 28) = 3;",
                "read(0, 60) = 0; unmap(0, 0) = false; attach(0, 0, 0, 5) = 3; read(0, 0) = 3");
        Edges.promised(9, "Returns the number of mapped pages", "createSegment(1) = 0; start() = 0; map(0, 0) = 1;",
                "unmap(0, 0) = true; attach(0, 0, 0, 0) = 1; map(0, 1) = 2; attach(0, 2, 0, 0) = 3;",
                "attach(0, 3, 0, 0) = 4; unmap(0, 1) = true; attach(0, 1, 0, 0) = 4");
        Edges.promised(9, "Returns the number of mapped pages", "createSegment(1) = 0; start() = 0;",
                States.attachedToOneContent(0), "sharersOf(0, 0) = 16");
    }

    private static void attachRefused() {
        String noSuch = "Throws IndexOutOfBoundsException if no such process or segment";
        Edges.promised(9, noSuch, Edges.refused(Edges.INDEX, "attach(0, 0, 0, 0)"), "createSegment(2) = 0;",
                Edges.refused(Edges.INDEX, "attach(0, 0, 0, 0)"), TWO,
                Edges.refusedWith(Edges.INDEX, "attach(%d, 1, 0, 0)", Edges.NO_PROCESSES),
                Edges.refusedWith(Edges.INDEX, "attach(0, %d, 0, 0)", Edges.NO_PAGES), "attach(0, 15, 0, 1) = 1");
        // 715827884 * 6 is 8 as an int: the place of index 2 of segment 1.
        Edges.promised(9, noSuch, "createSegment(2) = 0; createSegment(6) = 1; start() = 0;",
                Edges.refusedWith(Edges.INDEX, "attach(0, 0, %d, 0)", -1, 2, 3, 4, 715827884, Edges.LEAST, Edges.MOST),
                Edges.refusedWith(Edges.INDEX, "attach(0, 0, 0, %d)", -1, 2, 5, 6, 7, Edges.LEAST, Edges.MOST),
                Edges.refusedWith(Edges.INDEX, "attach(0, 0, 1, %d)", -1, -5, -6, 6, 12, Edges.LEAST, Edges.MOST),
                "attach(0, 0, 1, 5) = 1; attach(0, 1, 0, 1) = 2");
        Edges.promised(9, noSuch, "createSegment(1) = 0; createSegment(1) = 1; createSegment(1) = 2; start() = 0;",
                Edges.refused(Edges.INDEX, "attach(0, 0, 3, 0)"), "createSegment(6) = 3; attach(0, 0, 3, 0) = 1;",
                Edges.refused(Edges.INDEX, "attach(0, 1, 3, 6)", "attach(0, 1, 4, 0)"));
        Edges.promised(9, EXITED, "createSegment(1) = 0;", TWO, "exit(1) = 1;",
                Edges.refused(Edges.GONE, "attach(1, 0, 0, 0)", "attach(1, 15, 0, 0)"), "attach(0, 0, 0, 0) = 1");
        Edges.promised(9, "Throws IllegalArgumentException", "createSegment(2) = 0; start() = 0; map(0, 0) = 1;",
                "attach(0, 15, 0, 0) = 2;", Edges.refused(Edges.ILLEGAL, "attach(0, 0, 0, 0)", "attach(0, 15, 0, 0)",
                        "attach(0, 15, 0, 1)"), "unmap(0, 15) = false; attach(0, 15, 0, 1) = 2");
    }

    private static void unmap() {
        Edges.promised(10, "Makes a page unmapped", "createSegment(1) = 0; start() = 0; map(0, 0) = 1;",
                "attach(0, 15, 0, 0) = 2; unmap(0, 15) = false; mapping(0, 15) = 0; mapping(0, 0) = 1;",
                "unmap(0, 0) = true; mapping(0, 0) = 0; map(0, 15) = 1; mapping(0, 15) = 1; attach(0, 0, 0, 0) = 2");
        Edges.promised(10, "Returns whether its content vanishes", "createSegment(1) = 0; start() = 0; map(0, 0) = 1;",
                "attach(0, 1, 0, 0) = 2; fork(0) = 1; fork(1) = 2; unmap(1, 0) = false; unmap(0, 0) = false;",
                "unmap(2, 0) = true; unmap(0, 1) = false; unmap(1, 1) = false; unmap(2, 1) = false");
        // A page that has parted from the others by a write has a content of its own.
        Edges.promised(10, "Returns whether its content vanishes", "start() = 0; map(0, 0) = 1; fork(0) = 1;",
                "write(1, 0, 1) = 0; unmap(0, 0) = true; unmap(1, 0) = true; freeFrames() = 6");
        Edges.promised(10, NO_PROCESS, Edges.refused(Edges.INDEX, "unmap(0, 0)"), TWO,
                Edges.refusedWith(Edges.INDEX, "unmap(%d, 0)", Edges.NO_PROCESSES),
                Edges.refusedWith(Edges.INDEX, "unmap(1, %d)", Edges.NO_PAGES),
                Edges.refusedWith(Edges.INDEX, "unmap(0, %d)", Edges.NO_PAGES), "unmap(1, 0) = true");
        Edges.promised(10, EXITED, TWO, "exit(1) = 1;", Edges.refused(Edges.GONE, "unmap(1, 0)", "unmap(1, 15)"));
        Edges.promised(10, "Throws IllegalArgumentException", "start() = 0;",
                Edges.refused(Edges.ILLEGAL, "unmap(0, 0)", "unmap(0, 15)"), "map(0, 15) = 1; unmap(0, 15) = true;",
                Edges.refused(Edges.ILLEGAL, "unmap(0, 15)", "unmap(0, 14)"));
    }

    private static void isLiveAndMapping() {
        Edges.promised(11, "Returns whether it is live", Edges.counted("start() = %d", 0, 9), "isLive(0) = true;",
                "isLive(9) = true; exit(0) = 0; exit(9) = 0; isLive(0) = false; isLive(9) = false; isLive(8) = true");
        Edges.promised(11, NO_PROCESS, Edges.refused(Edges.INDEX, "isLive(0)"), TWO,
                Edges.refusedWith(Edges.INDEX, "isLive(%d)", Edges.NO_PROCESSES), "isLive(1) = true; exit(1) = 1;",
                "isLive(1) = false;", Edges.refused(Edges.INDEX, "isLive(2)"));
        Edges.promised(12, "Returns 0 if it is unmapped (also if the process has exited)", "createSegment(1) = 0;",
                "start() = 0; mapping(0, 0) = 0; map(0, 0) = 1; mapping(0, 0) = 1; attach(0, 15, 0, 0) = 2;",
                "mapping(0, 15) = 2; mapping(0, 14) = 0; fork(0) = 1; exit(0) = 0; mapping(0, 0) = 0;",
                "mapping(0, 15) = 0; mapping(1, 0) = 1; mapping(1, 15) = 2");
        Edges.promised(12, NO_PROCESS, Edges.refused(Edges.INDEX, "mapping(0, 0)"), TWO,
                Edges.refusedWith(Edges.INDEX, "mapping(%d, 0)", Edges.NO_PROCESSES),
                Edges.refusedWith(Edges.INDEX, "mapping(1, %d)", Edges.NO_PAGES), "exit(1) = 1;",
                Edges.refusedWith(Edges.INDEX, "mapping(1, %d)", Edges.NO_PAGES), "mapping(1, 15) = 0");
    }
}
