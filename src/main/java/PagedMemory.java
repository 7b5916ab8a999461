import java.util.NoSuchElementException;

/**
 * A model of virtual memory: processes with private and shared pages, copy-on-write after forks,
 * frames that are given out by a clock which regards working sets, and a swap area to which pages
 * are written in clusters.
 */
public final class PagedMemory {
    /** Stands for "no frame", "no slot" and "no time" alike, as the answers -1 do. */
    private static final int NONE = -1;

    private static final int WORDS = 4;
    private static final int PAGES = 16;
    private static final int ADDRESSES = 64;
    private static final int MOST_PROCESSES = 10;
    private static final int MOST_SEGMENTS = 4;
    private static final int LARGEST_SEGMENT = 6;
    private static final int FEWEST_FRAMES = 4;
    private static final int MOST_FRAMES = 12;
    private static final int FRAMES_AT_FIRST = 6;
    private static final int SLOTS = 24;
    private static final int LARGEST_WINDOW = 50;
    private static final int WINDOW_AT_FIRST = 8;
    private static final int LARGEST_CLUSTER = 4;
    private static final int PREFETCH_REACH = 3;

    private static final int UNMAPPED = 0;
    private static final int PRIVATE = 1;
    private static final int SHARED = 2;

    private static final int FREE = 0;
    private static final int CLEAN = 1;
    private static final int DIRTY = 2;

    private static final int ZERO_FILLS = 0;
    private static final int SWAP_INS = 1;
    private static final int COPIES = 2;
    private static final int PREFETCHES = 3;
    private static final int EVICTIONS = 4;
    private static final int SLOTS_GIVEN = 5;
    private static final int KINDS = 6;

    private static final long DIGEST_START = 67;
    private static final long DIGEST_FACTOR = 31;

    /** The contents of all pages, PAGES places for each process; null where a page is unmapped. */
    private final Content[] pages;
    private final boolean[] live;
    /** The contents of all segments, LARGEST_SEGMENT places for each; null where there is none. */
    private final Content[] segmentContents;
    private final FrameTable frameTable;
    private final SwapArea swapArea;
    /** The contents that are being written out; kept so that no call has to make a row. */
    private final Content[] cluster;
    private final int[] counts;
    private int processesCreated;
    private int segmentsCreated;
    private int windowSize;
    private int now;

    public PagedMemory() {
        pages = new Content[MOST_PROCESSES * PAGES];
        live = new boolean[MOST_PROCESSES];
        segmentContents = new Content[MOST_SEGMENTS * LARGEST_SEGMENT];
        frameTable = new FrameTable();
        swapArea = new SwapArea();
        cluster = new Content[LARGEST_CLUSTER];
        counts = new int[KINDS];
        processesCreated = 0;
        segmentsCreated = 0;
        windowSize = WINDOW_AT_FIRST;
        now = 0;
    }

    // ---- settings

    public int setFrames(int frames) throws IllegalArgumentException, IllegalStateException {
        if (frames < FEWEST_FRAMES || frames > MOST_FRAMES) {
            throw new IllegalArgumentException("the number of frames is not 4 to 12");
        }
        if (frameTable.freeCount() < frameTable.size) {
            throw new IllegalStateException("a content is in a frame");
        }
        int before = frameTable.size;
        frameTable.size = frames;
        frameTable.handAt = 0;
        return before;
    }

    public int setWindow(int window) throws IllegalArgumentException {
        if (window < 0 || window > LARGEST_WINDOW) {
            throw new IllegalArgumentException("the window is not 0 to 50");
        }
        int before = windowSize;
        windowSize = window;
        return before;
    }

    // ---- processes and pages

    public int start() throws IllegalStateException {
        requireRoomForProcess();
        return createProcess();
    }

    public int fork(int process)
            throws IndexOutOfBoundsException, NoSuchElementException, IllegalStateException {
        requireProcess(process);
        requireLive(process);
        requireRoomForProcess();
        int child = createProcess();
        for (int page = 0; page < PAGES; page++) {
            Content content = pages[placeOf(process, page)];
            if (content != null) {
                refer(placeOf(child, page), content);
            }
        }
        return child;
    }

    public int exit(int process) throws IndexOutOfBoundsException, NoSuchElementException {
        requireProcess(process);
        requireLive(process);
        int vanished = 0;
        for (int page = 0; page < PAGES; page++) {
            if (dropReference(placeOf(process, page))) {
                vanished++;
            }
        }
        live[process] = false;
        return vanished;
    }

    public int map(int process, int page)
            throws IndexOutOfBoundsException, NoSuchElementException, IllegalArgumentException {
        requirePage(process, page);
        requireLive(process);
        requireUnmapped(process, page);
        refer(placeOf(process, page), new Content(NONE));
        return mappedPages(process);
    }

    public int createSegment(int size) throws IllegalArgumentException, IllegalStateException {
        if (size < 1 || size > LARGEST_SEGMENT) {
            throw new IllegalArgumentException("the size of a segment is not 1 to 6");
        }
        if (segmentsCreated >= MOST_SEGMENTS) {
            throw new IllegalStateException("4 segments were created");
        }
        int segment = segmentsCreated;
        for (int index = 0; index < size; index++) {
            int place = segment * LARGEST_SEGMENT + index;
            segmentContents[place] = new Content(place);
        }
        segmentsCreated++;
        return segment;
    }

    public int attach(int process, int page, int segment, int index)
            throws IndexOutOfBoundsException, NoSuchElementException, IllegalArgumentException {
        requirePage(process, page);
        Content content = requireSegmentContent(segment, index);
        requireLive(process);
        requireUnmapped(process, page);
        refer(placeOf(process, page), content);
        return mappedPages(process);
    }

    public boolean unmap(int process, int page)
            throws IndexOutOfBoundsException, NoSuchElementException, IllegalArgumentException {
        requirePage(process, page);
        requireLive(process);
        requireMapped(process, page);
        return dropReference(placeOf(process, page));
    }

    public boolean isLive(int process) throws IndexOutOfBoundsException {
        requireProcess(process);
        return live[process];
    }

    public int mapping(int process, int page) throws IndexOutOfBoundsException {
        requirePage(process, page);
        Content content = pages[placeOf(process, page)];
        if (content == null) {
            return UNMAPPED;
        }
        return content.shared ? SHARED : PRIVATE;
    }

    // ---- accesses

    public int read(int process, int address)
            throws IndexOutOfBoundsException, NoSuchElementException, IllegalArgumentException,
            IllegalStateException {
        Content content = requireAddressed(process, address);
        if (content.frame == NONE) {
            requireObtainableFrame();
        }
        now++;
        bringIn(content);
        frameTable.use(content.frame, now);
        return content.words[address % WORDS];
    }

    public int write(int process, int address, int word)
            throws IndexOutOfBoundsException, NoSuchElementException, IllegalArgumentException,
            IllegalStateException {
        Content content = requireAddressed(process, address);
        boolean copied = !content.shared && content.sharers > 1;
        if (copied || content.frame == NONE) {
            requireObtainableFrame();
        }
        now++;
        bringIn(content);
        if (copied) {
            content = copyForPage(placeOf(process, address / WORDS), content);
        }
        int before = content.words[address % WORDS];
        content.words[address % WORDS] = word;
        swapArea.vacateSlotOf(content);
        content.dirty = true;
        frameTable.use(content.frame, now);
        return before;
    }

    public int sync() {
        int written = 0;
        for (int frame = 0; frame < frameTable.size; frame++) {
            Content content = frameTable.contents[frame];
            if (content != null && content.dirty) {
                written += writeOut(content);
            }
        }
        return written;
    }

    // ---- what is

    public int time() {
        return now;
    }

    public int hand() {
        return frameTable.handAt;
    }

    public int frameOf(int process, int page) throws IndexOutOfBoundsException {
        requirePage(process, page);
        Content content = pages[placeOf(process, page)];
        return content == null ? NONE : content.frame;
    }

    public int slotOf(int process, int page) throws IndexOutOfBoundsException {
        requirePage(process, page);
        Content content = pages[placeOf(process, page)];
        return content == null ? NONE : content.slot;
    }

    public int sharersOf(int process, int page) throws IndexOutOfBoundsException {
        requirePage(process, page);
        Content content = pages[placeOf(process, page)];
        return content == null ? 0 : content.sharers;
    }

    public int frameState(int frame) throws IndexOutOfBoundsException {
        requireFrame(frame);
        Content content = frameTable.contents[frame];
        if (content == null) {
            return FREE;
        }
        return content.dirty ? DIRTY : CLEAN;
    }

    public int latestUse(int frame) throws IndexOutOfBoundsException {
        requireFrame(frame);
        return frameTable.usedAt[frame];
    }

    public boolean isReferenced(int frame) throws IndexOutOfBoundsException {
        requireFrame(frame);
        return frameTable.marked[frame];
    }

    public int freeFrames() {
        return frameTable.freeCount();
    }

    public int freeSlots() {
        return swapArea.freeCount();
    }

    public int workingSet(int process) throws IndexOutOfBoundsException {
        requireProcess(process);
        int inWindow = 0;
        for (int page = 0; page < PAGES; page++) {
            Content content = pages[placeOf(process, page)];
            if (content != null && content.frame != NONE && !isOutsideWindow(content.frame)) {
                inWindow++;
            }
        }
        return inWindow;
    }

    public int count(int kind) throws IndexOutOfBoundsException {
        if (kind < 0 || kind >= KINDS) {
            throw new IndexOutOfBoundsException("the kind is not 0 to 5");
        }
        return counts[kind];
    }

    public double swapRate() {
        if (now == 0) {
            return 0.0;
        }
        return (double) counts[SWAP_INS] / (double) now;
    }

    public long digest() {
        long d = DIGEST_START;
        d = mix(d, now);
        d = mix(d, frameTable.handAt);
        d = mix(d, processesCreated);
        for (int process = 0; process < processesCreated; process++) {
            d = mix(d, live[process] ? 1 : 0);
            for (int page = 0; page < PAGES; page++) {
                d = mix(d, mapping(process, page));
                d = mix(d, frameOf(process, page));
                d = mix(d, slotOf(process, page));
            }
        }
        for (int frame = 0; frame < frameTable.size; frame++) {
            d = mix(d, frameState(frame));
            d = mix(d, latestUse(frame));
            d = mix(d, isReferenced(frame) ? 1 : 0);
        }
        d = mix(d, swapArea.freeCount());
        for (int kind = 0; kind < KINDS; kind++) {
            d = mix(d, counts[kind]);
        }
        return d;
    }

    private static long mix(long d, long x) {
        return d * DIGEST_FACTOR + x;
    }

    // ---- what a call needs before it may change anything

    private void requireProcess(int process) {
        if (process < 0 || process >= processesCreated) {
            throw new IndexOutOfBoundsException("no such process was created");
        }
    }

    private void requirePage(int process, int page) {
        requireProcess(process);
        if (page < 0 || page >= PAGES) {
            throw new IndexOutOfBoundsException("there is no such page");
        }
    }

    private void requireFrame(int frame) {
        if (frame < 0 || frame >= frameTable.size) {
            throw new IndexOutOfBoundsException("there is no such frame");
        }
    }

    private void requireLive(int process) {
        if (!live[process]) {
            throw new NoSuchElementException("the process has exited");
        }
    }

    private void requireRoomForProcess() {
        if (processesCreated >= MOST_PROCESSES) {
            throw new IllegalStateException("10 processes were created");
        }
    }

    private void requireUnmapped(int process, int page) {
        if (pages[placeOf(process, page)] != null) {
            throw new IllegalArgumentException("the page is mapped");
        }
    }

    private Content requireMapped(int process, int page) {
        Content content = pages[placeOf(process, page)];
        if (content == null) {
            throw new IllegalArgumentException("the page is not mapped");
        }
        return content;
    }

    private Content requireSegmentContent(int segment, int index) {
        if (segment < 0 || segment >= segmentsCreated) {
            throw new IndexOutOfBoundsException("no such segment was created");
        }
        if (index < 0 || index >= LARGEST_SEGMENT) {
            throw new IndexOutOfBoundsException("no segment has such an index");
        }
        Content content = segmentContents[segment * LARGEST_SEGMENT + index];
        if (content == null) {
            throw new IndexOutOfBoundsException("the segment has no such index");
        }
        return content;
    }

    private Content requireAddressed(int process, int address) {
        requireProcess(process);
        if (address < 0 || address >= ADDRESSES) {
            throw new IndexOutOfBoundsException("the address is not 0 to 63");
        }
        requireLive(process);
        return requireMapped(process, address / WORDS);
    }

    /**
     * One obtainable frame is enough even where a swapped-out page is copied and needs two: the
     * content in the first one is clean then and can give way to the copy.
     */
    private void requireObtainableFrame() {
        if (frameTable.smallestFree() == NONE && frameTable.oldestClean() == NONE
                && swapArea.freeCount() == 0) {
            throw new IllegalStateException("no frame can be had");
        }
    }

    // ---- processes and the contents of their pages

    private static int placeOf(int process, int page) {
        return process * PAGES + page;
    }

    /** Only behind requireRoomForProcess. */
    private int createProcess() {
        int process = processesCreated;
        live[process] = true;
        processesCreated++;
        return process;
    }

    private int mappedPages(int process) {
        int mapped = 0;
        for (int page = 0; page < PAGES; page++) {
            if (pages[placeOf(process, page)] != null) {
                mapped++;
            }
        }
        return mapped;
    }

    private void refer(int place, Content content) {
        pages[place] = content;
        content.sharers++;
    }

    /** Makes the page unmapped; answers whether its content vanishes by that. */
    private boolean dropReference(int place) {
        Content content = pages[place];
        if (content == null) {
            return false;
        }
        pages[place] = null;
        content.sharers--;
        if (content.shared || content.sharers > 0) {
            return false;
        }
        if (content.frame != NONE) {
            frameTable.vacate(content.frame);
        }
        swapArea.vacateSlotOf(content);
        return true;
    }

    // ---- giving frames to contents

    private void bringIn(Content content) {
        if (content.frame != NONE) {
            return;
        }
        if (content.slot == NONE) {
            giveFrame(content, ZERO_FILLS);
            return;
        }
        giveFrame(content, SWAP_INS);
        prefetchBehind(content.slot);
    }

    /** Takes free frames only: a prefetch never drives a content out. */
    private void prefetchBehind(int slot) {
        for (int next = slot + 1; next <= slot + PREFETCH_REACH && next < SLOTS; next++) {
            Content content = swapArea.contents[next];
            int frame = frameTable.smallestFree();
            if (content != null && content.frame == NONE && frame != NONE) {
                frameTable.put(content, frame, now);
                counts[PREFETCHES]++;
            }
        }
    }

    /** The page refers to the original until the copy has a frame: a cluster may go by that page. */
    private Content copyForPage(int place, Content original) {
        Content copy = new Content(NONE);
        System.arraycopy(original.words, 0, copy.words, 0, WORDS);
        giveFrame(copy, COPIES);
        dropReference(place);
        refer(place, copy);
        return copy;
    }

    private void giveFrame(Content content, int kind) {
        int frame = frameTable.smallestFree();
        if (frame == NONE) {
            frame = freeByClock();
        }
        frameTable.put(content, frame, now);
        counts[kind]++;
    }

    private int freeByClock() {
        int chosen = NONE;
        int looks = 2 * frameTable.size;
        for (int look = 0; look < looks && chosen == NONE; look++) {
            if (givesWayWhenLookedAt(frameTable.handAt)) {
                chosen = frameTable.handAt;
            } else {
                frameTable.moveHandBehind(frameTable.handAt);
            }
        }
        if (chosen == NONE) {
            chosen = frameTable.oldestClean();
        }
        if (chosen == NONE) {
            chosen = frameTable.oldest();
            writeOut(frameTable.contents[chosen]);
        }
        frameTable.vacate(chosen);
        counts[EVICTIONS]++;
        frameTable.moveHandBehind(chosen);
        return chosen;
    }

    private boolean givesWayWhenLookedAt(int frame) {
        if (frameTable.marked[frame]) {
            frameTable.marked[frame] = false;
            frameTable.usedAt[frame] = now;
            return false;
        }
        if (!isOutsideWindow(frame)) {
            return false;
        }
        Content content = frameTable.contents[frame];
        if (content != null && content.dirty) {
            writeOut(content);
            return false;
        }
        return true;
    }

    private boolean isOutsideWindow(int frame) {
        return now - frameTable.usedAt[frame] > windowSize;
    }

    // ---- writing out

    /** Writes a dirty content out with its cluster; answers how many contents got slots. */
    private int writeOut(Content first) {
        if (first == null) {
            return 0;
        }
        int place = first.shared ? first.segmentPlace : firstPageOf(first);
        for (int length = gatherCluster(first, place); length > 0; length--) {
            int slot = swapArea.roomFor(length);
            if (slot != NONE) {
                swapArea.putAll(cluster, length, slot);
                counts[SLOTS_GIVEN] += length;
                return length;
            }
        }
        return 0;
    }

    /** The first place in the order of the processes, then of their pages, is the owner's. */
    private int firstPageOf(Content content) {
        for (int place = 0; place < pages.length; place++) {
            if (pages[place] == content) {
                return place;
            }
        }
        return pages.length;
    }

    /**
     * Fills the cluster and answers its length. No content can come twice: one of a segment has one
     * index, and a private one has the same page number in every process, as forks keep it.
     */
    private int gatherCluster(Content first, int place) {
        Content[] table = first.shared ? segmentContents : pages;
        int end = first.shared
                ? (place / LARGEST_SEGMENT + 1) * LARGEST_SEGMENT
                : (place / PAGES + 1) * PAGES;
        cluster[0] = first;
        int length = 1;
        for (int next = place + 1; next < end && next < table.length; next++) {
            Content content = table[next];
            if (length == LARGEST_CLUSTER || content == null || content.shared != first.shared
                    || !content.dirty) {
                break;
            }
            cluster[length] = content;
            length++;
        }
        return length;
    }

    // ---- the classes inside

    /** A page of words. It is dirty only while it has a frame and no slot. */
    private static final class Content {
        final int[] words;
        final boolean shared;
        /** Where it stands among the contents of all segments; NONE if it belongs to none. */
        final int segmentPlace;
        int frame;
        int slot;
        boolean dirty;
        /** How many pages refer to it. */
        int sharers;

        Content(int segmentPlace) {
            this.words = new int[WORDS];
            this.shared = segmentPlace != NONE;
            this.segmentPlace = segmentPlace;
            this.frame = NONE;
            this.slot = NONE;
            this.dirty = false;
            this.sharers = 0;
        }
    }

    /** The frames, with the hand of their clock. The rows are as long as there can be frames. */
    private static final class FrameTable {
        final Content[] contents;
        final int[] usedAt;
        final boolean[] marked;
        int size;
        int handAt;

        FrameTable() {
            contents = new Content[MOST_FRAMES];
            usedAt = new int[MOST_FRAMES];
            marked = new boolean[MOST_FRAMES];
            size = FRAMES_AT_FIRST;
            handAt = 0;
            for (int frame = 0; frame < MOST_FRAMES; frame++) {
                usedAt[frame] = NONE;
            }
        }

        int freeCount() {
            int free = 0;
            for (int frame = 0; frame < size; frame++) {
                if (contents[frame] == null) {
                    free++;
                }
            }
            return free;
        }

        int smallestFree() {
            for (int frame = 0; frame < size; frame++) {
                if (contents[frame] == null) {
                    return frame;
                }
            }
            return NONE;
        }

        int oldestClean() {
            int oldest = NONE;
            for (int frame = 0; frame < size; frame++) {
                Content content = contents[frame];
                if (content != null && !content.dirty
                        && (oldest == NONE || usedAt[frame] < usedAt[oldest])) {
                    oldest = frame;
                }
            }
            return oldest;
        }

        int oldest() {
            int oldest = 0;
            for (int frame = 1; frame < size; frame++) {
                if (usedAt[frame] < usedAt[oldest]) {
                    oldest = frame;
                }
            }
            return oldest;
        }

        void put(Content content, int frame, int time) {
            contents[frame] = content;
            usedAt[frame] = time;
            marked[frame] = false;
            content.frame = frame;
        }

        void use(int frame, int time) {
            if (frame >= 0 && frame < size) {
                usedAt[frame] = time;
                marked[frame] = true;
            }
        }

        void vacate(int frame) {
            Content content = contents[frame];
            if (content != null) {
                content.frame = NONE;
            }
            contents[frame] = null;
            usedAt[frame] = NONE;
            marked[frame] = false;
        }

        void moveHandBehind(int frame) {
            handAt = frame + 1 < size ? frame + 1 : 0;
        }
    }

    /** The swap area. A slot's words are those of its content, which a write parts from it. */
    private static final class SwapArea {
        final Content[] contents;

        SwapArea() {
            contents = new Content[SLOTS];
        }

        int freeCount() {
            int free = 0;
            for (int slot = 0; slot < SLOTS; slot++) {
                if (contents[slot] == null) {
                    free++;
                }
            }
            return free;
        }

        /** The smallest slot from which on so many slots are free; NONE if there is none. */
        int roomFor(int length) {
            int run = 0;
            for (int slot = 0; slot < SLOTS; slot++) {
                run = contents[slot] == null ? run + 1 : 0;
                if (run == length) {
                    return slot - length + 1;
                }
            }
            return NONE;
        }

        /** The contents are clean with it. */
        void putAll(Content[] cluster, int length, int firstSlot) {
            for (int i = 0; i < length && i < cluster.length && firstSlot + i < SLOTS; i++) {
                Content content = cluster[i];
                if (content != null) {
                    contents[firstSlot + i] = content;
                    content.slot = firstSlot + i;
                    content.dirty = false;
                }
            }
        }

        void vacateSlotOf(Content content) {
            if (content.slot >= 0 && content.slot < SLOTS) {
                contents[content.slot] = null;
            }
            content.slot = NONE;
        }
    }
}
