/** Promises 13 and 14, read and write: what an access does to contents, frames and slots. */
public final class AccessTest {
    private static final String GONE = " = throws.NoSuchElementException; ";
    private static final String ILLEGAL = " = throws.IllegalArgumentException; ";
    private static final String STATE = " = throws.IllegalStateException; ";
    private static final String INDEX = " = throws.IndexOutOfBoundsException; ";

    public static void main(String[] args) {
        read();
        write();
        swapInsAndPrefetches();
        prefetchAtTheLastSlots();
        copies();
        noFrameCanBeHad();
        Runs.finish();
    }

    private static void read() {
        Runs.run("13: a zero fill, then nothing",
                "start() = 0; map(0, 5) = 1; read(0, 23) = 0; time() = 1; count(0) = 1; frameOf(0, 5) = 0;",
                "slotOf(0, 5) = -1; frameState(0) = 1; latestUse(0) = 1; isReferenced(0) = true;",
                "read(0, 20) = 0; time() = 2; count(0) = 1; latestUse(0) = 2; freeFrames() = 5");
        Runs.run("13: the smallest free frame",
                "start() = 0;", Runs.maps(0, 0, 4), Runs.reads(0, 0, 2, 0, 4), "frameOf(0, 2) = 0;",
                "frameOf(0, 0) = 1; frameOf(0, 4) = 2; unmap(0, 0) = true;", Runs.reads(0, 0, 3, 1),
                "frameOf(0, 3) = 1; frameOf(0, 1) = 3");
        Runs.run("13: wrong inputs, in their order, without time",
                "read(0, 0)" + INDEX, "start() = 0; read(0, 0)" + ILLEGAL, "read(0, 63)" + ILLEGAL,
                "read(0, -1)" + INDEX, "read(0, 64)" + INDEX, "read(1, 0)" + INDEX, "read(-1, 0)" + INDEX,
                "read(0, 2147483647)" + INDEX, "read(0, -2147483648)" + INDEX, "read(2147483647, 0)" + INDEX,
                "map(0, 15) = 1; read(0, 59)" + ILLEGAL, "read(0, 60) = 0; read(0, 63) = 0; exit(0) = 1;",
                "read(0, 60)" + GONE, "read(0, 0)" + GONE, "read(0, 64)" + INDEX, "time() = 2");
    }

    private static void write() {
        Runs.run("14: the word before is answered, each word stands alone",
                "start() = 0; map(0, 0) = 1; map(0, 15) = 2; write(0, 0, 2147483647) = 0;",
                "write(0, 3, -2147483648) = 0; write(0, 63, -1) = 0; write(0, 0, 5) = 2147483647;",
                "read(0, 0) = 5; read(0, 1) = 0; read(0, 2) = 0; read(0, 3) = -2147483648;",
                "read(0, 63) = -1; read(0, 60) = 0; write(0, 63, 0) = -1; read(0, 63) = 0");
        Runs.run("14: a content is dirty from the write on, even of the word that it had",
                "start() = 0; map(0, 0) = 1; write(0, 0, 0) = 0; frameState(0) = 2; count(0) = 1;",
                "latestUse(0) = 1; isReferenced(0) = true; time() = 1; sync() = 1; frameState(0) = 1");
        Runs.run("14: a written content loses its slot",
                "start() = 0; map(0, 0) = 1; map(0, 1) = 2; write(0, 0, 1) = 0; write(0, 4, 2) = 0;",
                "sync() = 2; slotOf(0, 0) = 0; freeSlots() = 22; frameState(0) = 1; read(0, 0) = 1;",
                "slotOf(0, 0) = 0; write(0, 1, 3) = 0; slotOf(0, 0) = -1; freeSlots() = 23;",
                "frameState(0) = 2; slotOf(0, 1) = 1; sync() = 1; slotOf(0, 0) = 0; read(0, 0) = 1");
        Runs.run("14: a shared page's content is written in place, at its slot too",
                "createSegment(1) = 0; start() = 0; attach(0, 0, 0, 0) = 1; attach(0, 1, 0, 0) = 2;",
                "write(0, 0, 4) = 0; fork(0) = 1; sync() = 1; write(1, 4, 5) = 4; slotOf(0, 0) = -1;",
                "read(0, 0) = 5; count(2) = 0; sharersOf(0, 0) = 4; freeFrames() = 5; freeSlots() = 24");
        Runs.run("14: wrong inputs, in their order, without time",
                "write(0, 0, 1)" + INDEX, "start() = 0; write(0, 0, 1)" + ILLEGAL, "write(0, -1, 1)" + INDEX,
                "write(0, 64, 1)" + INDEX, "write(1, 0, 1)" + INDEX, "write(-1, 0, 1)" + INDEX,
                "write(0, 2147483647, 1)" + INDEX, "write(0, -2147483648, 1)" + INDEX,
                "map(0, 15) = 1; write(0, 59, 1)" + ILLEGAL, "write(0, 63, 1) = 0; exit(0) = 1;",
                "write(0, 63, 1)" + GONE, "write(0, 0, 1)" + GONE, "write(0, 64, 1)" + INDEX, "time() = 1");
    }

    private static void swapInsAndPrefetches() {
        Runs.run("13: a swap-in keeps the slot and brings the next three",
                States.FOUR_IN_SLOTS, "slotOf(0, 0) = 0; slotOf(0, 3) = 3; frameOf(0, 3) = -1; read(0, 0) = 100;",
                "count(1) = 1; count(3) = 3; count(0) = 8; frameOf(0, 0) = 0; frameOf(0, 1) = 1;",
                "frameOf(0, 2) = 2; frameOf(0, 3) = 3; slotOf(0, 0) = 0; slotOf(0, 1) = 1;",
                "latestUse(0) = 9; latestUse(1) = 9; latestUse(3) = 9; isReferenced(0) = true;",
                "isReferenced(1) = false; isReferenced(3) = false; frameState(0) = 1; frameState(3) = 1;",
                "freeSlots() = 20; read(0, 12) = 103; count(1) = 1; swapRate() = 1/10; time() = 10");
        Runs.run("13: not those before it",
                States.FOUR_IN_SLOTS, "read(0, 4) = 101; count(1) = 1; count(3) = 2; frameOf(0, 1) = 0;",
                "frameOf(0, 2) = 1; frameOf(0, 3) = 2; frameOf(0, 0) = -1; freeFrames() = 1");
        Runs.run("13: a free slot and a content in a frame are passed over",
                States.FOUR_IN_SLOTS, "unmap(0, 1) = true; read(0, 0) = 100; count(3) = 2; frameOf(0, 2) = 1;",
                "frameOf(0, 3) = 2; freeFrames() = 1");
        Runs.run("13: a content that is in a frame, too, is passed over",
                States.FOUR_IN_SLOTS, "read(0, 12) = 103; count(3) = 0; frameOf(0, 3) = 0; read(0, 4) = 101;",
                "count(1) = 2; count(3) = 1; frameOf(0, 1) = 1; frameOf(0, 2) = 2; latestUse(0) = 9;",
                "freeFrames() = 1");
        Runs.run("13: only while frames are free",
                States.FOUR_IN_SLOTS, "start() = 2; map(2, 0) = 1; map(2, 1) = 2; read(2, 0) = 0; read(2, 4) = 0;",
                "read(0, 0) = 100; count(3) = 1; frameOf(0, 0) = 2; frameOf(0, 1) = 3; frameOf(0, 2) = -1;",
                "count(4) = 4; read(0, 12) = 103; count(3) = 1; count(4) = 5");
        Runs.run("13: the next three, not four",
                "setFrames(5) = 6; start() = 0;", Runs.maps(0, 0, 4), Runs.writes(0, 0, 1, 2, 3, 4),
                "sync() = 5; start() = 1;", Runs.maps(1, 0, 4), Runs.reads(1, 0, 0, 1, 2, 3, 4),
                "exit(1) = 5; freeFrames() = 5; read(0, 0) = 100; count(3) = 3; freeFrames() = 1;",
                "frameOf(0, 3) = 3; frameOf(0, 4) = -1; slotOf(0, 4) = 4");
        Runs.run("14: a write swaps in and prefetches as a read does; then the slot is lost",
                States.FOUR_IN_SLOTS, "write(0, 5, 7) = 0; count(1) = 1; count(3) = 2; slotOf(0, 1) = -1;",
                "slotOf(0, 2) = 2; freeSlots() = 21; frameState(0) = 2; frameState(1) = 1;",
                "isReferenced(0) = true; isReferenced(1) = false; read(0, 4) = 101; read(0, 5) = 7");
    }

    /** 24 contents in all slots, alone; a swap-in at the end of the swap area. */
    private static void prefetchAtTheLastSlots() {
        String allInSlots = States.SLOTS_FULL_AND_FRAMES_FREE;
        Runs.run("13: nothing is behind the last slot",
                allInSlots, "read(1, 28) = 107; count(1) = 1; count(3) = 0; freeFrames() = 11");
        Runs.run("13: one slot is behind the last but one",
                allInSlots, "read(1, 24) = 106; count(3) = 1; frameOf(1, 7) = 1; freeFrames() = 10");
        Runs.run("13: contents of another process are prefetched, too",
                allInSlots, "read(0, 56) = 114; count(3) = 3; frameOf(0, 15) = 1; frameOf(1, 0) = 2;",
                "frameOf(1, 1) = 3; frameOf(1, 2) = -1");
    }

    private static void copies() {
        Runs.run("14: the original is not used by the write that copies it",
                "start() = 0; map(0, 0) = 1; map(0, 1) = 2; write(0, 0, 1) = 0; read(0, 4) = 0;",
                "fork(0) = 1; write(1, 1, 2) = 0; latestUse(0) = 1; isReferenced(0) = true;",
                "frameOf(1, 0) = 2; latestUse(2) = 3; isReferenced(2) = true; frameState(2) = 2;",
                "count(2) = 1; count(0) = 2; read(1, 0) = 1; read(0, 1) = 0");
        Runs.run("14: a blank original is filled first",
                "start() = 0; map(0, 0) = 1; fork(0) = 1; write(1, 0, 5) = 0; count(0) = 1; count(2) = 1;",
                "frameOf(0, 0) = 0; frameState(0) = 1; latestUse(0) = 1; isReferenced(0) = false;",
                "frameOf(1, 0) = 1; frameState(1) = 2; isReferenced(1) = true; read(0, 0) = 0");
        Runs.run("14: the original is swapped in first and keeps its slot",
                States.FOUR_IN_SLOTS, "fork(0) = 2; write(2, 13, 7) = 0; count(1) = 1; count(2) = 1;",
                "frameOf(0, 3) = 0; slotOf(0, 3) = 3; frameState(0) = 1; latestUse(0) = 9;",
                "isReferenced(0) = false; frameOf(2, 3) = 1; slotOf(2, 3) = -1; frameState(1) = 2;",
                "isReferenced(1) = true; sharersOf(0, 3) = 1; sharersOf(2, 2) = 2; read(2, 12) = 103;",
                "read(0, 13) = 0");
        Runs.run("14: its prefetches come before the copy's frame",
                States.FOUR_IN_SLOTS, "fork(0) = 2; write(2, 1, 7) = 0; count(3) = 3; count(4) = 5;",
                "frameOf(0, 0) = -1; frameOf(2, 0) = 0; read(2, 0) = 100; hand() = 1");
        Runs.run("14: the copy may drive its original out",
                "setFrames(4) = 6; start() = 0; map(0, 0) = 1; write(0, 0, 8) = 0; sync() = 1; fork(0) = 1;",
                "start() = 2;", Runs.maps(2, 0, 2), Runs.reads(2, 0, 0, 1, 2), "write(1, 1, 9) = 0;",
                "frameOf(0, 0) = -1; slotOf(0, 0) = 0; frameOf(1, 0) = 0; slotOf(1, 0) = -1;",
                "count(2) = 1; count(4) = 1; count(1) = 0; read(1, 0) = 8; read(1, 1) = 9");
        Runs.run("14: the last one with a content writes without a copy",
                "start() = 0; map(0, 0) = 1; write(0, 0, 8) = 0; fork(0) = 1; unmap(0, 0) = false;",
                "write(1, 0, 9) = 8; count(2) = 0; frameOf(1, 0) = 0; freeFrames() = 5");
    }

    private static void noFrameCanBeHad() {
        String full = States.SLOTS_FULL_AND_FRAMES_DIRTY;
        Runs.run("13, 14: a content without a frame, slots full and all dirty",
                full, "read(0, 0)" + STATE, "write(0, 0, 1)" + STATE, "map(1, 12) = 13;",
                "read(1, 48)" + STATE, "write(1, 48, 1)" + STATE, "time() = 28; read(1, 32) = 108;",
                "write(1, 33, 5) = 0; time() = 30; sync() = 0");
        Runs.run("13, 14: other exceptions come first",
                full, "read(0, 64)" + INDEX, "write(2, 0, 1)" + INDEX, "map(1, 12) = 13; read(1, 52)" + ILLEGAL,
                "write(1, 52, 1)" + ILLEGAL, "start() = 2; exit(2) = 0; read(2, 0)" + GONE);
        Runs.run("14: a copy needs a frame, too",
                full, "fork(1) = 2; write(2, 32, 5)" + STATE, "read(2, 32) = 108; write(2, 0, 5)" + STATE,
                "unmap(1, 8) = false; write(2, 32, 5) = 108; count(2) = 0");
        Runs.run("13: a free slot is enough",
                full, "map(1, 12) = 13; unmap(0, 5) = true; read(1, 48) = 0; count(5) = 25; count(4) = 25;",
                "freeSlots() = 0; read(0, 0) = 100");
        Runs.run("13: a clean content is enough, of which there is one as long as it stays",
                full, "unmap(1, 8) = true; read(0, 0) = 100; freeFrames() = 0; freeSlots() = 0;",
                "frameOf(0, 0) = 0; read(0, 4) = 101; frameOf(0, 1) = 0; write(0, 4, 1) = 101;",
                "freeSlots() = 1; read(0, 8) = 102; freeSlots() = 0");
        Runs.run("14: one frame is enough for a swap-in with a copy",
                full, "unmap(1, 8) = true; fork(0) = 2; write(2, 1, 7) = 0; count(2) = 1; count(1) = 1;",
                "frameOf(0, 0) = -1; slotOf(0, 0) = 0; frameOf(2, 0) = 0; read(2, 0) = 100;",
                "write(2, 5, 7)" + STATE, "read(0, 0)" + STATE);
    }
}
