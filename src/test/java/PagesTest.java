/** Promises 7 to 10 and 12: map, createSegment, attach, unmap, mapping. */
public final class PagesTest {
    private static final String GONE = " = throws.NoSuchElementException; ";
    private static final String ILLEGAL = " = throws.IllegalArgumentException; ";
    private static final String STATE = " = throws.IllegalStateException; ";
    private static final String INDEX = " = throws.IndexOutOfBoundsException; ";

    public static void main(String[] args) {
        map();
        createSegment();
        attach();
        unmap();
        mapping();
        Runs.finish();
    }

    private static void map() {
        Runs.run("7: the mapped pages are counted, shared ones too",
                "createSegment(1) = 0; start() = 0; map(0, 15) = 1; map(0, 0) = 2; attach(0, 3, 0, 0) = 3;",
                "map(0, 4) = 4; unmap(0, 0) = true; map(0, 5) = 4; start() = 1; map(1, 0) = 1");
        Runs.run("7: the content is a new one",
                "start() = 0; map(0, 2) = 1; frameOf(0, 2) = -1; slotOf(0, 2) = -1; sharersOf(0, 2) = 1;",
                "write(0, 8, 5) = 0; write(0, 11, 6) = 0; unmap(0, 2) = true; map(0, 2) = 1;",
                "frameOf(0, 2) = -1; read(0, 8) = 0; read(0, 11) = 0; frameState(0) = 1; count(0) = 2");
        Runs.run("7: wrong inputs, in their order",
                "map(0, 0)" + INDEX, "start() = 0; map(0, 16)" + INDEX, "map(0, -1)" + INDEX,
                "map(-1, 0)" + INDEX, "map(1, 0)" + INDEX, "map(0, 2147483647)" + INDEX,
                "map(0, -2147483648)" + INDEX, "map(2147483647, 0)" + INDEX, "map(0, 7) = 1;",
                "map(0, 7)" + ILLEGAL, "fork(0) = 1; map(1, 7)" + ILLEGAL, "exit(0) = 0; map(0, 7)" + GONE,
                "map(0, 0)" + GONE, "map(0, 16)" + INDEX, "map(1, 7)" + ILLEGAL);
    }

    private static void createSegment() {
        Runs.run("8: four segments of 1 to 6 contents",
                "createSegment(1) = 0; createSegment(6) = 1; createSegment(3) = 2; createSegment(2) = 3;",
                "createSegment(1)" + STATE, "createSegment(7)" + ILLEGAL, "createSegment(0)" + ILLEGAL,
                "start() = 0; attach(0, 0, 0, 0) = 1; attach(0, 1, 0, 1)" + INDEX, "attach(0, 1, 1, 5) = 2;",
                "attach(0, 2, 1, 6)" + INDEX, "attach(0, 2, 2, 2) = 3; attach(0, 3, 2, 3)" + INDEX,
                "attach(0, 3, 3, 1) = 4; attach(0, 4, 3, 2)" + INDEX, "attach(0, 4, 4, 0)" + INDEX,
                "attach(0, 4, 4, 5)" + INDEX);
        Runs.run("8: wrong sizes",
                "createSegment(0)" + ILLEGAL, "createSegment(7)" + ILLEGAL, "createSegment(-1)" + ILLEGAL,
                "createSegment(2147483647)" + ILLEGAL, "createSegment(-2147483648)" + ILLEGAL,
                "createSegment(6) = 0; start() = 0; attach(0, 0, 1, 0)" + INDEX);
        Runs.run("8: its contents are blank, and exist without a page",
                "createSegment(2) = 0; start() = 0; attach(0, 0, 0, 1) = 1; frameOf(0, 0) = -1;",
                "slotOf(0, 0) = -1; read(0, 0) = 0; count(0) = 1; write(0, 2, 5) = 0; unmap(0, 0) = false;",
                "frameState(0) = 2; attach(0, 9, 0, 1) = 1; read(0, 38) = 5; frameOf(0, 9) = 0");
    }

    private static void attach() {
        Runs.run("9: pages share the content of a segment",
                "createSegment(6) = 0; createSegment(6) = 1; start() = 0; start() = 1;",
                "attach(0, 0, 0, 5) = 1; attach(0, 1, 1, 0) = 2; attach(1, 15, 0, 5) = 1;",
                "attach(1, 14, 1, 0) = 2; attach(0, 2, 0, 5) = 3; sharersOf(0, 0) = 3;",
                "sharersOf(0, 1) = 2; write(0, 1, 3) = 0; read(1, 61) = 3; read(0, 9) = 3;",
                "read(0, 5) = 0; write(1, 56, 4) = 0; read(0, 4) = 4; read(0, 0) = 0; count(2) = 0");
        Runs.run("9: the mapped pages are counted, private ones too",
                "createSegment(1) = 0; start() = 0; map(0, 0) = 1; attach(0, 1, 0, 0) = 2;",
                "attach(0, 2, 0, 0) = 3; unmap(0, 0) = true; attach(0, 0, 0, 0) = 3");
        Runs.run("9: wrong inputs, in their order",
                "createSegment(2) = 0; attach(0, 0, 0, 0)" + INDEX, "start() = 0;",
                "attach(0, 16, 0, 0)" + INDEX, "attach(0, -1, 0, 0)" + INDEX, "attach(0, 0, 1, 0)" + INDEX,
                "attach(0, 0, -1, 0)" + INDEX, "attach(0, 0, 4, 0)" + INDEX, "attach(0, 0, 0, 2)" + INDEX,
                "attach(0, 0, 0, -1)" + INDEX, "attach(0, 0, 0, 6)" + INDEX, "attach(1, 0, 0, 0)" + INDEX,
                "attach(-1, 0, 0, 0)" + INDEX, "attach(0, 0, 0, 2147483647)" + INDEX,
                "attach(0, 0, 2147483647, 0)" + INDEX, "attach(0, 0, -2147483648, 0)" + INDEX,
                "attach(0, 0, 0, 0) = 1; attach(0, 0, 0, 1)" + ILLEGAL, "attach(0, 0, 0, 2)" + INDEX,
                "map(0, 1) = 2; attach(0, 1, 0, 0)" + ILLEGAL, "exit(0) = 1; attach(0, 0, 0, 0)" + GONE,
                "attach(0, 0, 0, 2)" + INDEX, "attach(0, 16, 0, 0)" + INDEX, "attach(0, 0, 1, 0)" + INDEX);
    }

    private static void unmap() {
        Runs.run("10: a content vanishes with its last page; frame and slot become free",
                "start() = 0; map(0, 0) = 1; map(0, 1) = 2; map(0, 2) = 3; write(0, 0, 1) = 0;",
                "write(0, 4, 2) = 0; sync() = 2; freeSlots() = 22; freeFrames() = 4; unmap(0, 0) = true;",
                "freeSlots() = 23; freeFrames() = 5; frameState(0) = 0; latestUse(0) = -1;",
                "isReferenced(0) = false; mapping(0, 0) = 0; frameOf(0, 0) = -1; slotOf(0, 0) = -1;",
                "unmap(0, 2) = true; read(0, 4) = 2; frameOf(0, 1) = 1; map(0, 0) = 2; read(0, 0) = 0;",
                "frameOf(0, 0) = 0; count(4) = 0");
        Runs.run("10: it stays while another page or a segment refers to it",
                "createSegment(1) = 0; start() = 0; map(0, 0) = 1; attach(0, 1, 0, 0) = 2;",
                "write(0, 0, 7) = 0; write(0, 4, 8) = 0; fork(0) = 1; unmap(0, 0) = false;",
                "sharersOf(1, 0) = 1; unmap(0, 1) = false; unmap(1, 1) = false; freeFrames() = 4;",
                "read(1, 0) = 7; unmap(1, 0) = true; freeFrames() = 5; frameState(1) = 2");
        Runs.run("10: a slot alone becomes free, too",
                "setFrames(4) = 6; start() = 0;", Runs.maps(0, 0, 4), Runs.writes(0, 0, 1, 2, 3, 4),
                "slotOf(0, 0) = 0; frameOf(0, 0) = -1; freeSlots() = 20; unmap(0, 0) = true;",
                "freeSlots() = 21; freeFrames() = 0; hand() = 1");
        Runs.run("10: wrong inputs, in their order",
                "unmap(0, 0)" + INDEX, "start() = 0; unmap(0, 0)" + ILLEGAL, "unmap(0, 16)" + INDEX,
                "unmap(0, -1)" + INDEX, "unmap(1, 0)" + INDEX, "unmap(-1, 0)" + INDEX,
                "unmap(0, 2147483647)" + INDEX, "unmap(-2147483648, 0)" + INDEX, "map(0, 15) = 1;",
                "unmap(0, 15) = true; unmap(0, 15)" + ILLEGAL, "exit(0) = 0; unmap(0, 15)" + GONE,
                "unmap(0, 16)" + INDEX);
    }

    private static void mapping() {
        Runs.run("12: unmapped, private, shared",
                "createSegment(1) = 0; start() = 0; mapping(0, 0) = 0; map(0, 0) = 1; mapping(0, 0) = 1;",
                "attach(0, 15, 0, 0) = 2; mapping(0, 15) = 2; mapping(0, 14) = 0; fork(0) = 1;",
                "mapping(1, 0) = 1; mapping(1, 15) = 2; write(1, 0, 1) = 0; mapping(1, 0) = 1;",
                "unmap(0, 15) = false; mapping(0, 15) = 0; mapping(1, 15) = 2; exit(1) = 1;",
                "mapping(1, 15) = 0; mapping(1, 0) = 0; mapping(0, 0) = 1");
        Runs.run("12: wrong inputs",
                "mapping(0, 0)" + INDEX, "start() = 0; mapping(0, 16)" + INDEX, "mapping(0, -1)" + INDEX,
                "mapping(1, 0)" + INDEX, "mapping(-1, 0)" + INDEX, "mapping(0, 2147483647)" + INDEX,
                "mapping(2147483647, 15)" + INDEX, "exit(0) = 0; mapping(0, 16)" + INDEX);
    }
}
