/** The Description's last two sentences: what refused calls leave, and which exception comes first. */
final class EdgesOfRefusals {
    private static final String NOTHING = "A method that throws an exception changes nothing";
    private static final String FIRST = "If several exceptions apply, the one that is named first";
    private static final String FULL = States.SLOTS_FULL_AND_FRAMES_DIRTY;

    private EdgesOfRefusals() {
    }

    static void all() {
        settingsStay();
        wordsStay();
        numbersStay();
        firstOfTwo();
        firstOfAnAccess();
    }

    /** Runs compares what the answers show before and after; the rest is asked for here. */
    private static void settingsStay() {
        Edges.described(NOTHING, "setWindow(7) = 8;", Edges.refused(Edges.ILLEGAL, "setWindow(51)", "setWindow(-1)"),
                "setWindow(8) = 7; setFrames(9) = 6;", Edges.refused(Edges.ILLEGAL, "setFrames(3)", "setFrames(13)"),
                "setFrames(5) = 9; start() = 0; map(0, 0) = 1; read(0, 0) = 0;",
                Edges.refused(Edges.STATE, "setFrames(9)"), "freeFrames() = 4; exit(0) = 1; setFrames(5) = 5");
        Edges.described(NOTHING, States.fourReadAndAFifth(8), Edges.refused(Edges.STATE, "setFrames(4)"),
                "hand() = 1; freeFrames() = 0");
    }

    private static void wordsStay() {
        Edges.described(NOTHING, FULL, "fork(1) = 2;", Edges.refused(Edges.STATE, "write(0, 0, 1)", "write(1, 28, 1)",
                "write(1, 32, 1)", "write(2, 32, 1)", "read(0, 0)"), "read(1, 32) = 108; read(2, 32) = 108;",
                "sharersOf(1, 8) = 2; unmap(1, 11) = false; unmap(2, 11) = true; read(0, 0) = 100;",
                "read(1, 28) = 107; read(1, 32) = 108; time() = 33");
        Edges.described(NOTHING, "start() = 0; map(0, 1) = 1; write(0, 4, 5) = 0; write(0, 7, 6) = 0;",
                Edges.refused(Edges.ILLEGAL, "write(0, 3, 9)", "write(0, 8, 9)", "map(0, 1)", "unmap(0, 0)"),
                Edges.refused(Edges.INDEX, "write(0, 64, 9)", "write(0, -1, 9)", "write(1, 4, 9)"),
                "read(0, 4) = 5; read(0, 7) = 6; time() = 4; count(0) = 1");
        Edges.described(NOTHING, "createSegment(1) = 0; start() = 0; map(0, 1) = 1; write(0, 4, 5) = 0;",
                Edges.refused(Edges.ILLEGAL, "attach(0, 1, 0, 0)"), "mapping(0, 1) = 1; read(0, 4) = 5;",
                "attach(0, 2, 0, 0) = 2;", Edges.refused(Edges.ILLEGAL, "map(0, 2)"), "mapping(0, 2) = 2;",
                "sharersOf(0, 2) = 1");
    }

    private static void numbersStay() {
        Edges.described(NOTHING, Edges.refused(Edges.INDEX, "fork(0)", "exit(0)", "map(0, 0)"), "start() = 0;",
                Edges.refused(Edges.INDEX, "fork(1)"), "start() = 1; exit(0) = 0;",
                Edges.refused(Edges.GONE, "fork(0)", "exit(0)", "map(0, 0)"), "start() = 2; isLive(0) = false");
        Edges.described(NOTHING, Edges.refused(Edges.ILLEGAL, "createSegment(0)", "createSegment(7)"),
                "createSegment(2) = 0;", Edges.refused(Edges.ILLEGAL, "createSegment(7)"), "start() = 0;",
                Edges.refused(Edges.INDEX, "attach(0, 0, 0, 2)", "attach(0, 0, 1, 0)", "attach(0, 16, 0, 0)"),
                "attach(0, 0, 0, 1) = 1; createSegment(6) = 1; createSegment(1) = 2; createSegment(1) = 3;",
                Edges.refused(Edges.STATE, "createSegment(6)"), Edges.refused(Edges.INDEX, "attach(0, 1, 4, 0)"),
                "attach(0, 1, 1, 5) = 2");
        Edges.described(NOTHING, "start() = 0; map(0, 3) = 1;", Edges.refused(Edges.INDEX, "map(0, 16)",
                "map(0, -1)", "unmap(0, 16)"), Edges.refused(Edges.ILLEGAL, "map(0, 3)", "unmap(0, 4)"),
                "map(0, 4) = 2; unmap(0, 3) = true");
        Edges.described(NOTHING, Edges.counted("start() = %d", 0, 9), "map(9, 0) = 1;",
                Edges.refused(Edges.STATE, "start()", "fork(9)"), "sharersOf(9, 0) = 1; unmap(9, 0) = true");
    }

    private static void firstOfTwo() {
        Edges.described(FIRST, "start() = 0; map(0, 0) = 1; read(0, 0) = 0;",
                Edges.refused(Edges.ILLEGAL, "setFrames(3)", "setFrames(13)"),
                Edges.refused(Edges.STATE, "setFrames(4)", "setFrames(12)"));
        Edges.described(FIRST, Edges.counted("start() = %d", 0, 9), "exit(3) = 0;",
                Edges.refused(Edges.INDEX, "fork(10)", "fork(-1)"), Edges.refused(Edges.GONE, "fork(3)"),
                Edges.refused(Edges.STATE, "fork(4)"));
        Edges.described(FIRST, "createSegment(1) = 0; createSegment(1) = 1; createSegment(1) = 2;",
                "createSegment(1) = 3;", Edges.refused(Edges.ILLEGAL, "createSegment(0)", "createSegment(7)"),
                Edges.refused(Edges.STATE, "createSegment(1)"));
        Edges.described(FIRST, "start() = 0; map(0, 0) = 1; exit(0) = 1;",
                Edges.refused(Edges.INDEX, "map(0, 16)", "map(0, -1)", "map(1, 16)", "unmap(0, 16)", "unmap(0, -1)",
                        "unmap(1, -1)", "exit(1)"),
                Edges.refused(Edges.GONE, "map(0, 0)", "unmap(0, 0)", "unmap(0, 15)", "exit(0)"));
        Edges.described(FIRST, "createSegment(2) = 0; start() = 0; start() = 1; map(0, 0) = 1; exit(1) = 0;",
                Edges.refused(Edges.INDEX, "attach(0, 0, 0, 2)", "attach(0, 0, 1, 0)", "attach(0, 0, 0, -1)",
                        "attach(1, 16, 0, 0)", "attach(1, 0, 1, 0)", "attach(1, 0, 0, 2)", "attach(2, 16, 1, 2)"),
                Edges.refused(Edges.GONE, "attach(1, 0, 0, 0)"), Edges.refused(Edges.ILLEGAL, "attach(0, 0, 0, 0)"));
    }

    private static void firstOfAnAccess() {
        Edges.described(FIRST, FULL, "start() = 2; exit(2) = 0;",
                Edges.refused(Edges.INDEX, "read(2, 64)", "read(2, -1)", "read(3, 0)", "read(1, 64)",
                        "write(2, 64, 1)", "write(2, -1, 1)", "write(3, 0, 1)", "write(1, 64, 1)"),
                Edges.refused(Edges.GONE, "read(2, 0)", "read(2, 63)", "write(2, 0, 1)", "write(2, 63, 1)"),
                Edges.refused(Edges.ILLEGAL, "read(1, 48)", "read(1, 63)", "write(1, 48, 1)", "write(1, 63, 1)"),
                Edges.refused(Edges.STATE, "read(1, 0)", "write(1, 0, 1)"));
    }
}
