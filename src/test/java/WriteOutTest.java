/** Promise 15, sync, and the clusters in which contents are written out. */
public final class WriteOutTest {
    public static void main(String[] args) {
        sync();
        whatEndsACluster();
        segments();
        owners();
        places();
        Runs.finish();
    }

    private static void sync() {
        Runs.run("15: nothing to write", "sync() = 0; start() = 0; map(0, 0) = 1; sync() = 0;",
                "read(0, 0) = 0; sync() = 0; count(5) = 0; freeSlots() = 24");
        Runs.run("15: dirty contents get slots and stay in their frames",
                "start() = 0;", Runs.maps(0, 0, 5), Runs.writes(0, 0, 1, 2, 3, 4, 5), "sync() = 6;",
                "count(5) = 6; freeSlots() = 18; slotOf(0, 0) = 0; slotOf(0, 5) = 5; freeFrames() = 0;",
                "frameState(0) = 1; frameState(5) = 1; isReferenced(0) = true; latestUse(0) = 1;",
                "time() = 6; hand() = 0; count(4) = 0; sync() = 0; count(5) = 6; write(0, 9, 1) = 0;",
                "sync() = 1; slotOf(0, 2) = 2; count(5) = 7");
        Runs.run("15: frame by frame, and only those that are still dirty",
                "start() = 0;", Runs.maps(0, 0, 3), Runs.writes(0, 3, 2, 1, 0), "sync() = 4;",
                "slotOf(0, 3) = 0; slotOf(0, 2) = 1; slotOf(0, 1) = 2; slotOf(0, 0) = 3");
        Runs.run("15: a cluster takes contents of later frames along",
                "start() = 0;", Runs.maps(0, 0, 2), Runs.writes(0, 1, 0, 2), "sync() = 3;",
                "slotOf(0, 1) = 0; slotOf(0, 2) = 1; slotOf(0, 0) = 2");
        Runs.run("15: nothing is written without a slot",
                States.SLOTS_FULL_AND_FRAMES_DIRTY, "sync() = 0; count(5) = 24; frameState(0) = 2");
    }

    /** Page 5 is in frame 1: it stands behind the first cluster, and shows how long that one was. */
    private static void whatEndsACluster() {
        Runs.run("15: at most four contents",
                "start() = 0;", Runs.maps(0, 0, 9), Runs.writes(0, 0, 9, 1, 2, 3, 4), "sync() = 6;",
                "slotOf(0, 0) = 0; slotOf(0, 3) = 3; slotOf(0, 9) = 4; slotOf(0, 4) = 5");
        Runs.run("15: an unmapped page ends it",
                "start() = 0;", Runs.maps(0, 0, 5), "unmap(0, 1) = true;", Runs.writes(0, 0, 5, 2),
                "sync() = 3; slotOf(0, 0) = 0; slotOf(0, 5) = 1; slotOf(0, 2) = 2");
        Runs.run("15: a blank page ends it",
                "start() = 0;", Runs.maps(0, 0, 5), Runs.writes(0, 0, 5, 2),
                "sync() = 3; slotOf(0, 0) = 0; slotOf(0, 5) = 1; slotOf(0, 2) = 2; slotOf(0, 1) = -1");
        Runs.run("15: a clean page ends it",
                "start() = 0;", Runs.maps(0, 0, 5), Runs.writes(0, 0, 5), Runs.reads(0, 0, 1),
                Runs.writes(0, 2), "sync() = 3; slotOf(0, 0) = 0; slotOf(0, 5) = 1; slotOf(0, 2) = 2;",
                "slotOf(0, 1) = -1");
        Runs.run("15: a shared page ends it",
                "createSegment(1) = 0; start() = 0; attach(0, 1, 0, 0) = 1; map(0, 0) = 2; map(0, 2) = 3;",
                "map(0, 5) = 4;", Runs.writes(0, 0, 5, 1, 2), "sync() = 4; slotOf(0, 0) = 0;",
                "slotOf(0, 5) = 1; slotOf(0, 1) = 2; slotOf(0, 2) = 3");
        Runs.run("15: the last page of a process ends it",
                "start() = 0; start() = 1; map(0, 15) = 1; map(0, 5) = 2; map(1, 0) = 1;",
                Runs.writes(0, 15, 5), Runs.writes(1, 0), "sync() = 3; slotOf(0, 15) = 0;",
                "slotOf(0, 5) = 1; slotOf(1, 0) = 2");
    }

    private static void segments() {
        Runs.run("15: a segment's cluster goes by its indices, not by pages",
                "createSegment(6) = 0; start() = 0; start() = 1; attach(0, 3, 0, 1) = 1; map(0, 4) = 2;",
                "attach(0, 0, 0, 2) = 3; attach(1, 9, 0, 3) = 1;", Runs.writes(0, 3, 4, 0),
                Runs.writes(1, 9), "sync() = 4; slotOf(0, 3) = 0; slotOf(0, 0) = 1; slotOf(1, 9) = 2;",
                "slotOf(0, 4) = 3");
        Runs.run("15: without any page, too",
                "createSegment(2) = 0; start() = 0; attach(0, 0, 0, 0) = 1; attach(0, 1, 0, 1) = 2;",
                "map(0, 5) = 3;", Runs.writes(0, 0, 5, 1), "unmap(0, 0) = false; unmap(0, 1) = false;",
                "sync() = 3; slotOf(0, 5) = 2; attach(0, 1, 0, 1) = 2; slotOf(0, 1) = 1");
        Runs.run("15: the end of a segment ends it",
                "createSegment(6) = 0; createSegment(1) = 1; start() = 0; attach(0, 0, 0, 5) = 1;",
                "attach(0, 1, 1, 0) = 2; map(0, 5) = 3;", Runs.writes(0, 0, 5, 1),
                "sync() = 3; slotOf(0, 0) = 0; slotOf(0, 5) = 1; slotOf(0, 1) = 2");
        Runs.run("15: at most four contents, a clean one ends it",
                "createSegment(6) = 0; start() = 0; attach(0, 0, 0, 0) = 1; attach(0, 1, 0, 1) = 2;",
                "attach(0, 2, 0, 2) = 3; attach(0, 3, 0, 3) = 4; attach(0, 4, 0, 4) = 5; map(0, 9) = 6;",
                Runs.writes(0, 0, 9, 1, 2, 3, 4), "sync() = 6; slotOf(0, 3) = 3; slotOf(0, 9) = 4;",
                "slotOf(0, 4) = 5; write(0, 0, 1) = 100; write(0, 8, 1) = 102; sync() = 2;",
                "slotOf(0, 0) = 0; slotOf(0, 2) = 2");
    }

    private static void owners() {
        String forked = "start() = 0; map(0, 0) = 1; map(0, 5) = 2; write(0, 0, 1) = 0; fork(0) = 1; "
                + "write(0, 20, 2) = 0; map(1, 1) = 3; write(1, 4, 3) = 0; ";
        Runs.run("15: the owner is the process with the smallest number",
                forked, "sync() = 3; slotOf(0, 0) = 0; slotOf(0, 5) = 1; slotOf(1, 1) = 2");
        Runs.run("15: another one when this one has no such page any more",
                forked, "unmap(0, 0) = false; sync() = 3; slotOf(1, 0) = 0; slotOf(1, 1) = 1;",
                "slotOf(0, 5) = 2");
        Runs.run("15: the next pages come along, whoever owns their contents",
                "start() = 0; map(0, 7) = 1; map(0, 5) = 2; map(0, 1) = 3; read(0, 28) = 0;",
                "write(0, 20, 1) = 0; write(0, 4, 2) = 0; fork(0) = 1; unmap(0, 7) = false;",
                "unmap(1, 7) = true; map(1, 0) = 3; write(1, 0, 3) = 0; frameOf(1, 0) = 0; sync() = 3;",
                "slotOf(1, 0) = 0; slotOf(0, 1) = 1; slotOf(0, 5) = 2");
        Runs.run("14: a page that is copied refers to the original until the copy has its frame",
                "setFrames(4) = 6; start() = 0; map(0, 0) = 1; write(0, 0, 1) = 0; fork(0) = 1;",
                "map(0, 1) = 2; map(0, 5) = 3; map(0, 7) = 4; write(0, 4, 2) = 0; write(0, 20, 3) = 0;",
                "write(0, 28, 4) = 0; write(0, 1, 9) = 0; slotOf(1, 0) = 0; slotOf(0, 1) = 1;",
                "count(5) = 2; frameOf(1, 0) = -1; frameOf(0, 0) = 0; read(0, 0) = 1");
    }

    private static void places() {
        String sixInSlots = "start() = 0; " + Runs.maps(0, 0, 5) + Runs.writes(0, 0, 1, 2, 3, 4, 5)
                + "sync() = 6; ";
        Runs.run("15: the smallest place that has room for all",
                sixInSlots, "unmap(0, 1) = true; unmap(0, 3) = true; unmap(0, 4) = true; freeSlots() = 21;",
                "map(0, 8) = 4; map(0, 9) = 5;", Runs.writes(0, 8, 9), "sync() = 2; slotOf(0, 8) = 3;",
                "slotOf(0, 9) = 4; map(0, 11) = 6;", Runs.writes(0, 11), "sync() = 1; slotOf(0, 11) = 1");
        Runs.run("15: one that is too small is passed over",
                sixInSlots, "unmap(0, 2) = true; unmap(0, 3) = true; map(0, 8) = 5; map(0, 9) = 6;",
                "unmap(0, 5) = true; map(0, 10) = 6; unmap(0, 0) = true;", Runs.writes(0, 8, 9, 10),
                "sync() = 3; slotOf(0, 8) = 5; slotOf(0, 9) = 6; slotOf(0, 10) = 7; freeSlots() = 19");
        Runs.run("15: a cluster is shortened by its last contents",
                States.SLOTS_FULL_AND_FRAMES_DIRTY, "unmap(0, 2) = true; unmap(0, 3) = true; unmap(0, 6) = true;",
                "sync() = 3; slotOf(1, 8) = 2; slotOf(1, 9) = 3; slotOf(1, 10) = 6; slotOf(1, 11) = -1;",
                "frameState(2) = 1; frameState(3) = 2; freeSlots() = 0; count(5) = 27");
        Runs.run("15: to one content, at the last slot",
                States.SLOTS_FULL_AND_FRAMES_DIRTY, "unmap(1, 7) = true; sync() = 1; slotOf(1, 8) = 23;",
                "slotOf(1, 9) = -1");
    }
}
