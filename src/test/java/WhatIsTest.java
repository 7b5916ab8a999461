/** Promises 16 to 29: what can be asked. */
public final class WhatIsTest {
    private static final String INDEX = " = throws.IndexOutOfBoundsException; ";

    public static void main(String[] args) {
        timeAndHand();
        pagesAsked();
        sharersOf();
        framesAsked();
        freeOnes();
        workingSet();
        count();
        swapRate();
        digest();
        askingChangesNothing();
        Runs.finish();
    }

    private static void timeAndHand() {
        Runs.run("16: only accesses take time",
                "time() = 0; start() = 0; map(0, 0) = 1; fork(0) = 1; sync() = 0; time() = 0; read(0, 0) = 0;",
                "time() = 1; write(1, 0, 1) = 0; time() = 2; sync() = 1; unmap(1, 0) = true; time() = 2;",
                "read(1, 0) = throws.IllegalArgumentException; time() = 2");
        Runs.run("17: the hand stays while frames are free",
                "hand() = 0; setFrames(4) = 6; start() = 0;", Runs.maps(0, 0, 5), Runs.reads(0, 0, 0, 1, 2, 3),
                "hand() = 0;", Runs.reads(0, 0, 4), "hand() = 1;", Runs.reads(0, 0, 5), "hand() = 2;",
                Runs.reads(0, 0, 5), "hand() = 2");
    }

    private static String wrongPages(String method) {
        return method + "(0, 16)" + INDEX + method + "(0, -1)" + INDEX + method + "(2, 0)" + INDEX
                + method + "(-1, 0)" + INDEX + method + "(2147483647, 15)" + INDEX
                + method + "(0, -2147483648)" + INDEX;
    }

    private static void pagesAsked() {
        String two = "start() = 0; start() = 1; map(0, 3) = 1; map(0, 4) = 2; ";
        Runs.run("18: frameOf",
                "frameOf(0, 0)" + INDEX, two, "frameOf(0, 3) = -1; frameOf(0, 0) = -1; read(0, 16) = 0;",
                "read(0, 12) = 0; frameOf(0, 4) = 0; frameOf(0, 3) = 1; unmap(0, 4) = true;",
                "frameOf(0, 4) = -1; exit(0) = 1; frameOf(0, 3) = -1;", wrongPages("frameOf"));
        Runs.run("19: slotOf",
                "slotOf(0, 0)" + INDEX, two, "slotOf(0, 3) = -1; slotOf(0, 0) = -1; write(0, 16, 1) = 0;",
                "slotOf(0, 4) = -1; sync() = 1; slotOf(0, 4) = 0; slotOf(0, 3) = -1; write(0, 12, 1) = 0;",
                "sync() = 1; slotOf(0, 3) = 1; unmap(0, 4) = true; slotOf(0, 4) = -1; exit(0) = 1;",
                "slotOf(0, 3) = -1;", wrongPages("slotOf"));
        Runs.run("20: wrong inputs", "sharersOf(0, 0)" + INDEX, two, wrongPages("sharersOf"));
        Runs.run("12: wrong inputs", "mapping(0, 0)" + INDEX, two, wrongPages("mapping"));
    }

    private static void sharersOf() {
        Runs.run("20: pages of live processes",
                "createSegment(2) = 0; start() = 0; map(0, 0) = 1; sharersOf(0, 0) = 1; sharersOf(0, 1) = 0;",
                "attach(0, 1, 0, 0) = 2; attach(0, 2, 0, 0) = 3; sharersOf(0, 1) = 2; fork(0) = 1;",
                "sharersOf(1, 2) = 4; sharersOf(1, 0) = 2; fork(1) = 2; sharersOf(0, 0) = 3;",
                "write(1, 0, 1) = 0; sharersOf(1, 0) = 1; sharersOf(0, 0) = 2; sharersOf(2, 0) = 2;",
                "exit(2) = 0; sharersOf(0, 0) = 1; sharersOf(0, 1) = 4; sharersOf(2, 0) = 0;",
                "unmap(0, 1) = false; sharersOf(0, 1) = 0; sharersOf(0, 2) = 3");
    }

    private static String wrongFrames(String method) {
        return method + "(-1)" + INDEX + method + "(6)" + INDEX + method + "(12)" + INDEX
                + method + "(2147483647)" + INDEX + method + "(-2147483648)" + INDEX;
    }

    private static void framesAsked() {
        Runs.run("21: frameState",
                wrongFrames("frameState"), "start() = 0; map(0, 0) = 1; frameState(0) = 0; read(0, 0) = 0;",
                "frameState(0) = 1; frameState(1) = 0; write(0, 0, 1) = 0; frameState(0) = 2; sync() = 1;",
                "frameState(0) = 1; write(0, 0, 1) = 1; frameState(0) = 2; unmap(0, 0) = true;",
                "frameState(0) = 0; frameState(5) = 0");
        Runs.run("22: latestUse",
                wrongFrames("latestUse"), "start() = 0; map(0, 0) = 1; map(0, 1) = 2; latestUse(0) = -1;",
                "read(0, 0) = 0; latestUse(0) = 1; read(0, 4) = 0; latestUse(0) = 1; latestUse(1) = 2;",
                "write(0, 0, 1) = 0; latestUse(0) = 3; sync() = 1; latestUse(0) = 3; exit(0) = 2;",
                "latestUse(0) = -1; latestUse(1) = -1; latestUse(5) = -1");
        Runs.run("23: isReferenced",
                wrongFrames("isReferenced"), "start() = 0; map(0, 0) = 1; isReferenced(0) = false;",
                "write(0, 0, 1) = 0; isReferenced(0) = true; fork(0) = 1; isReferenced(0) = true;",
                "unmap(0, 0) = false; isReferenced(0) = true; unmap(1, 0) = true; isReferenced(0) = false;",
                "isReferenced(5) = false");
        Runs.run("21 to 23: frames of a smaller and of a larger memory",
                "setFrames(4) = 6; frameState(4)" + INDEX, "latestUse(4)" + INDEX, "isReferenced(4)" + INDEX,
                "setFrames(12) = 4; frameState(11) = 0; latestUse(11) = -1; isReferenced(11) = false;",
                "frameState(12)" + INDEX);
    }

    private static void freeOnes() {
        Runs.run("24: freeFrames",
                "freeFrames() = 6; start() = 0;", Runs.maps(0, 0, 7), "freeFrames() = 6;",
                Runs.reads(0, 0, 0, 1, 2, 3, 4), "freeFrames() = 1;", Runs.reads(0, 0, 5, 6, 7),
                "freeFrames() = 0; unmap(0, 7) = true; freeFrames() = 1; unmap(0, 0) = true;",
                "freeFrames() = 1; exit(0) = 6; freeFrames() = 6; setFrames(9) = 6; freeFrames() = 9");
        Runs.run("25: freeSlots",
                "freeSlots() = 24; start() = 0;", Runs.maps(0, 0, 3), Runs.writes(0, 0, 1, 2, 3),
                "freeSlots() = 24; sync() = 4; freeSlots() = 20; write(0, 0, 1) = 100; freeSlots() = 21;",
                "unmap(0, 1) = true; freeSlots() = 22; unmap(0, 0) = true; freeSlots() = 22; exit(0) = 2;",
                "freeSlots() = 24");
        Runs.run("25: none", States.SLOTS_FULL_AND_FRAMES_DIRTY, "freeSlots() = 0; exit(0) = 16;",
                "freeSlots() = 16; exit(1) = 12; freeSlots() = 24");
    }

    private static void workingSet() {
        Runs.run("26: not longer ago than the window",
                "workingSet(0)" + INDEX, "start() = 0; start() = 1; map(0, 0) = 1; map(1, 0) = 1;",
                "workingSet(0) = 0; read(0, 0) = 0;", Runs.repeated("read(1, 0) = 0", 8), "time() = 9;",
                "workingSet(0) = 1; workingSet(1) = 1; read(1, 0) = 0; workingSet(0) = 0; workingSet(1) = 1;",
                "setWindow(9) = 8; workingSet(0) = 1; workingSet(2)" + INDEX, "workingSet(-1)" + INDEX,
                "workingSet(2147483647)" + INDEX, "exit(0) = 1; workingSet(0) = 0");
        Runs.run("26: pages are counted, not contents; those of others, too",
                "createSegment(1) = 0; start() = 0; attach(0, 0, 0, 0) = 1; attach(0, 1, 0, 0) = 2;",
                "map(0, 2) = 3; map(0, 3) = 4; fork(0) = 1; read(0, 0) = 0; read(0, 8) = 0;",
                "workingSet(0) = 3; workingSet(1) = 3; setWindow(0) = 8; workingSet(0) = 1");
        Runs.run("26: a content in a slot alone is not in it",
                "setWindow(50) = 8; setFrames(4) = 6; start() = 0;", Runs.maps(0, 0, 4),
                Runs.writes(0, 0, 1, 2, 3), "workingSet(0) = 4;", Runs.writes(0, 4), "workingSet(0) = 4;",
                "frameOf(0, 0) = -1");
    }

    private static void count() {
        Runs.run("27: wrong kinds",
                "count(-1)" + INDEX, "count(6)" + INDEX, "count(2147483647)" + INDEX,
                "count(-2147483648)" + INDEX, "count(0) = 0; count(5) = 0");
        Runs.run("27: each kind",
                "setFrames(4) = 6; start() = 0;", Runs.maps(0, 0, 4), Runs.writes(0, 0, 1, 2, 3, 4),
                "count(0) = 5; count(1) = 0; count(2) = 0; count(3) = 0; count(4) = 1; count(5) = 4;",
                "unmap(0, 4) = true; unmap(0, 3) = true; count(4) = 1; read(0, 0) = 100; count(1) = 1;",
                "fork(0) = 1; write(1, 0, 1) = 100; count(2) = 1; count(0) = 5; sync() = 1; count(5) = 5;",
                "exit(0) = 1; exit(1) = 3; count(0) = 5; count(1) = 1; count(2) = 1; count(4) = 1");
    }

    private static void swapRate() {
        Runs.run("28: swap-ins by time",
                "swapRate() = 0.0; setFrames(4) = 6; start() = 0;", Runs.maps(0, 0, 4), "swapRate() = 0.0;",
                Runs.writes(0, 0, 1, 2, 3, 4), "swapRate() = 0/5; read(0, 0) = 100; count(1) = 1;",
                "swapRate() = 1/6; read(0, 4) = 101; count(1) = 2; swapRate() = 2/7; read(0, 4) = 101;",
                "swapRate() = 2/8; read(0, 4) = 101; swapRate() = 2/9");
    }

    /** The sum of the document, over what the other methods answer. */
    private static long digestOf(PagedMemory memory, int processes, int frames) {
        long d = 67;
        d = d * 31 + memory.time();
        d = d * 31 + memory.hand();
        d = d * 31 + processes;
        for (int process = 0; process < processes; process++) {
            d = d * 31 + (memory.isLive(process) ? 1 : 0);
            for (int page = 0; page < 16; page++) {
                d = d * 31 + memory.mapping(process, page);
                d = d * 31 + memory.frameOf(process, page);
                d = d * 31 + memory.slotOf(process, page);
            }
        }
        for (int frame = 0; frame < frames; frame++) {
            d = d * 31 + memory.frameState(frame);
            d = d * 31 + memory.latestUse(frame);
            d = d * 31 + (memory.isReferenced(frame) ? 1 : 0);
        }
        d = d * 31 + memory.freeSlots();
        for (int kind = 0; kind <= 5; kind++) {
            d = d * 31 + memory.count(kind);
        }
        return d;
    }

    private static void digest() {
        PagedMemory memory = new PagedMemory();
        Runs.due("29: of a new object", memory.digest(), digestOf(memory, 0, 6));
        memory.setFrames(4);
        Runs.due("29: with four frames", memory.digest(), digestOf(memory, 0, 4));
        memory.createSegment(2);
        memory.start();
        for (int page = 0; page < 6; page++) {
            memory.map(0, page);
            memory.write(0, 4 * page, page);
        }
        memory.attach(0, 9, 0, 1);
        Runs.due("29: with a process", memory.digest(), digestOf(memory, 1, 4));
        memory.fork(0);
        memory.write(1, 36, 7);
        memory.write(1, 1, 7);
        memory.sync();
        memory.exit(0);
        Runs.due("29: with an exited process", memory.digest(), digestOf(memory, 2, 4));
    }

    private static void askingChangesNothing() {
        Runs.run("16 to 29: the same answers twice",
                "setFrames(4) = 6; start() = 0;", Runs.maps(0, 0, 4), Runs.writes(0, 0, 1, 2, 3, 4),
                Runs.repeated("time() = 5; hand() = 1; frameOf(0, 4) = 0; slotOf(0, 1) = 1;"
                        + "sharersOf(0, 1) = 1; frameState(0) = 2; latestUse(1) = 5; isReferenced(0) = true;"
                        + "freeFrames() = 0; freeSlots() = 20; workingSet(0) = 4; count(5) = 4;"
                        + "swapRate() = 0.0; mapping(0, 4) = 1; isLive(0) = true", 2));
    }
}
