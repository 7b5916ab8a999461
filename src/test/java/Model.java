import java.util.ArrayList;
import java.util.Arrays;
import java.util.List;
import java.util.NoSuchElementException;
import java.util.TreeMap;

/**
 * The document once more, sentence by sentence and without any regard to speed: nothing is kept that
 * can be looked up, so that a mistake in what PagedMemory keeps shows as a difference.
 */
public final class Model {
    private static final class Content {
        final int[] words = new int[4];
        boolean writtenInFrame;
    }

    private record Page(Content content, boolean isShared) {
    }

    private record Use(int time, boolean marked) {
    }

    private final List<Page[]> processes = new ArrayList<>();
    private final List<Boolean> lives = new ArrayList<>();
    private final List<List<Content>> segments = new ArrayList<>();
    private final TreeMap<Integer, Content> frames = new TreeMap<>();
    private final TreeMap<Integer, Use> uses = new TreeMap<>();
    private final TreeMap<Integer, Content> slots = new TreeMap<>();
    private final int[] counts = new int[6];
    private int frameNumber = 6;
    private int window = 8;
    private int hand = 0;
    private int time = 0;
    /** What happened in this object that is rare; the random runs look whether they meet all of it. */
    final TreeMap<String, Integer> met = new TreeMap<>();

    public int setFrames(int number) {
        if (number < 4 || number > 12) {
            throw new IllegalArgumentException();
        }
        if (!frames.isEmpty()) {
            throw new IllegalStateException();
        }
        int before = frameNumber;
        frameNumber = number;
        hand = 0;
        return before;
    }

    public int setWindow(int size) {
        if (size < 0 || size > 50) {
            throw new IllegalArgumentException();
        }
        int before = window;
        window = size;
        return before;
    }

    public int start() {
        if (processes.size() == 10) {
            throw new IllegalStateException();
        }
        processes.add(new Page[16]);
        lives.add(true);
        return processes.size() - 1;
    }

    public int fork(int process) {
        createdProcess(process);
        liveProcess(process);
        int child = start();
        processes.set(child, processes.get(process).clone());
        return child;
    }

    public int exit(int process) {
        createdProcess(process);
        liveProcess(process);
        int vanished = 0;
        for (int page = 0; page < 16; page++) {
            if (processes.get(process)[page] != null && unmap(process, page)) {
                vanished++;
            }
        }
        lives.set(process, false);
        return vanished;
    }

    public int map(int process, int page) {
        createdProcess(process);
        existingPage(page);
        liveProcess(process);
        if (processes.get(process)[page] != null) {
            throw new IllegalArgumentException();
        }
        processes.get(process)[page] = new Page(new Content(), false);
        return mapped(process);
    }

    public int createSegment(int size) {
        if (size < 1 || size > 6) {
            throw new IllegalArgumentException();
        }
        if (segments.size() == 4) {
            throw new IllegalStateException();
        }
        List<Content> segment = new ArrayList<>();
        for (int index = 0; index < size; index++) {
            segment.add(new Content());
        }
        segments.add(segment);
        return segments.size() - 1;
    }

    public int attach(int process, int page, int segment, int index) {
        createdProcess(process);
        existingPage(page);
        if (segment < 0 || segment >= segments.size()) {
            throw new IndexOutOfBoundsException();
        }
        if (index < 0 || index >= segments.get(segment).size()) {
            throw new IndexOutOfBoundsException();
        }
        liveProcess(process);
        if (processes.get(process)[page] != null) {
            throw new IllegalArgumentException();
        }
        processes.get(process)[page] = new Page(segments.get(segment).get(index), true);
        return mapped(process);
    }

    public boolean unmap(int process, int page) {
        createdProcess(process);
        existingPage(page);
        liveProcess(process);
        Page old = processes.get(process)[page];
        if (old == null) {
            throw new IllegalArgumentException();
        }
        processes.get(process)[page] = null;
        boolean vanishes = sharers(old.content) == 0 && !segments.stream().anyMatch(s -> has(s, old.content));
        if (vanishes) {
            if (frameOf(old.content) >= 0) {
                uses.remove(frameOf(old.content));
                frames.remove(frameOf(old.content));
            }
            slots.remove(slotOf(old.content));
        }
        return vanishes;
    }

    public boolean isLive(int process) {
        createdProcess(process);
        return lives.get(process);
    }

    public int mapping(int process, int page) {
        createdProcess(process);
        existingPage(page);
        Page p = processes.get(process)[page];
        return p == null ? 0 : p.isShared ? 2 : 1;
    }

    public int read(int process, int address) {
        Page page = addressed(process, address);
        frameCanBeHad(frameOf(page.content) < 0);
        time++;
        access(page.content);
        uses.put(frameOf(page.content), new Use(time, true));
        return page.content.words[address - address / 4 * 4];
    }

    public int write(int process, int address, int word) {
        Page page = addressed(process, address);
        boolean copies = !page.isShared && sharers(page.content) > 1;
        frameCanBeHad(copies || frameOf(page.content) < 0);
        time++;
        Content written = page.content;
        access(written);
        if (copies) {
            written = new Content();
            for (int i = 0; i < 4; i++) {
                written.words[i] = page.content.words[i];
            }
            getFrame(written);
            counts[2]++;
            if (frameOf(page.content) < 0) {
                meet("a copy evicts its original");
            }
            processes.get(process)[address / 4] = new Page(written, false);
        }
        int before = written.words[address - address / 4 * 4];
        written.words[address - address / 4 * 4] = word;
        slots.remove(slotOf(written));
        written.writtenInFrame = true;
        uses.put(frameOf(written), new Use(time, true));
        return before;
    }

    public int sync() {
        int before = counts[5];
        for (int frame = 0; frame < frameNumber; frame++) {
            Content content = frames.get(frame);
            if (content != null && isDirty(content)) {
                writeOut(content);
                meet(isDirty(content) ? "a sync without a slot" : "a sync");
            }
        }
        return counts[5] - before;
    }

    public int time() {
        return time;
    }

    public int hand() {
        return hand;
    }

    public int frameOf(int process, int page) {
        return mapping(process, page) == 0 ? -1 : frameOf(processes.get(process)[page].content);
    }

    public int slotOf(int process, int page) {
        return mapping(process, page) == 0 ? -1 : slotOf(processes.get(process)[page].content);
    }

    public int sharersOf(int process, int page) {
        return mapping(process, page) == 0 ? 0 : sharers(processes.get(process)[page].content);
    }

    public int frameState(int frame) {
        existingFrame(frame);
        return !frames.containsKey(frame) ? 0 : isDirty(frames.get(frame)) ? 2 : 1;
    }

    public int latestUse(int frame) {
        existingFrame(frame);
        return frames.containsKey(frame) ? uses.get(frame).time : -1;
    }

    public boolean isReferenced(int frame) {
        existingFrame(frame);
        return frames.containsKey(frame) && uses.get(frame).marked;
    }

    public int freeFrames() {
        return frameNumber - frames.size();
    }

    public int freeSlots() {
        return 24 - slots.size();
    }

    public int workingSet(int process) {
        createdProcess(process);
        int set = 0;
        for (Page page : processes.get(process)) {
            if (page != null && frameOf(page.content) >= 0
                    && uses.get(frameOf(page.content)).time + window >= time) {
                set++;
            }
        }
        return set;
    }

    public int count(int kind) {
        if (kind < 0 || kind > 5) {
            throw new IndexOutOfBoundsException();
        }
        return counts[kind];
    }

    public double swapRate() {
        return time == 0 ? 0 : counts[1] / (double) time;
    }

    public long digest() {
        List<Integer> numbers = new ArrayList<>(Arrays.asList(time, hand, processes.size()));
        for (int process = 0; process < processes.size(); process++) {
            numbers.add(lives.get(process) ? 1 : 0);
            for (int page = 0; page < 16; page++) {
                numbers.add(mapping(process, page));
                numbers.add(frameOf(process, page));
                numbers.add(slotOf(process, page));
            }
        }
        for (int frame = 0; frame < frameNumber; frame++) {
            numbers.add(frameState(frame));
            numbers.add(latestUse(frame));
            numbers.add(isReferenced(frame) ? 1 : 0);
        }
        numbers.add(freeSlots());
        for (int count : counts) {
            numbers.add(count);
        }
        long d = 67;
        for (int x : numbers) {
            d = d * 31 + x;
        }
        return d;
    }

    private void access(Content content) {
        if (frameOf(content) >= 0) {
            return;
        }
        int s = slotOf(content);
        getFrame(content);
        if (s < 0) {
            counts[0]++;
            return;
        }
        counts[1]++;
        for (int k = 1; k <= 3; k++) {
            Content behind = slots.get(s + k);
            if (behind != null && frameOf(behind) < 0) {
                if (freeFrames() > 0) {
                    getFrame(behind);
                    counts[3]++;
                    meet("a prefetch");
                } else {
                    meet("no frame for a prefetch");
                }
            }
        }
    }

    private void getFrame(Content content) {
        int frame = 0;
        while (frame < frameNumber && frames.containsKey(frame)) {
            frame++;
        }
        if (frame == frameNumber) {
            frame = clock();
            Content evicted = frames.remove(frame);
            evicted.writtenInFrame = false;
            counts[4]++;
            hand = (frame + 1) % frameNumber;
            if (slotOf(evicted) < 0) {
                meet("a blank content is evicted");
                if (!Arrays.equals(evicted.words, new int[4])) {
                    throw new AssertionError("words are lost");
                }
            }
        }
        frames.put(frame, content);
        uses.put(frame, new Use(time, false));
    }

    /** The frame that has to be freed. */
    private int clock() {
        for (int looked = 0; looked < 2 * frameNumber; looked++) {
            Use use = uses.get(hand);
            Content content = frames.get(hand);
            if (use.marked) {
                uses.put(hand, new Use(time, false));
            } else if (time - use.time > window && !isDirty(content)) {
                meet("the clock frees a frame");
                return hand;
            } else if (time - use.time > window) {
                writeOut(content);
                meet(isDirty(content) ? "the clock finds no slot" : "the clock writes out");
            }
            hand = (hand + 1) % frameNumber;
        }
        boolean onlyClean = frames.values().stream().anyMatch(c -> !isDirty(c));
        int oldest = -1;
        for (int frame : frames.keySet()) {
            if (onlyClean && isDirty(frames.get(frame))) {
                continue;
            }
            if (oldest < 0 || uses.get(frame).time < uses.get(oldest).time) {
                oldest = frame;
            }
        }
        meet(onlyClean ? "the oldest clean frame" : "the oldest of dirty frames");
        if (!onlyClean) {
            writeOut(frames.get(oldest));
        }
        return oldest;
    }

    private void writeOut(Content content) {
        List<Content> cluster = cluster(content);
        while (!cluster.isEmpty()) {
            for (int first = 0; first + cluster.size() <= 24; first++) {
                if (slots.subMap(first, first + cluster.size()).isEmpty()) {
                    for (int i = 0; i < cluster.size(); i++) {
                        slots.put(first + i, cluster.get(i));
                    }
                    counts[5] += cluster.size();
                    meet("a cluster of " + cluster.size());
                    return;
                }
            }
            cluster.remove(cluster.size() - 1);
            meet("a cluster is shortened");
        }
    }

    private List<Content> cluster(Content content) {
        List<Content> candidates = new ArrayList<>();
        for (List<Content> segment : segments) {
            if (has(segment, content)) {
                int index = 0;
                while (segment.get(index) != content) {
                    index++;
                }
                candidates = segment.subList(index, segment.size());
            }
        }
        for (int process = 0; process < processes.size() && candidates.isEmpty(); process++) {
            for (int page = 0; page < 16 && candidates.isEmpty(); page++) {
                Page first = processes.get(process)[page];
                if (first != null && !first.isShared && first.content == content) {
                    for (int next = page; next < 16 && mapping(process, next) == 1; next++) {
                        candidates.add(processes.get(process)[next].content);
                    }
                }
            }
        }
        List<Content> cluster = new ArrayList<>();
        for (Content next : candidates) {
            if (cluster.size() == 4 || frameOf(next) < 0 || !isDirty(next)) {
                break;
            }
            if (has(cluster, next)) {
                meet("twice in a cluster");
                break;
            }
            cluster.add(next);
        }
        return cluster;
    }

    private void frameCanBeHad(boolean isNeeded) {
        if (isNeeded && freeFrames() == 0 && freeSlots() == 0
                && frames.values().stream().allMatch(this::isDirty)) {
            meet("no frame can be had");
            throw new IllegalStateException();
        }
    }

    private boolean isDirty(Content content) {
        return content.writtenInFrame && slotOf(content) < 0;
    }

    private static boolean has(List<Content> list, Content content) {
        return list.stream().anyMatch(c -> c == content);
    }

    private int frameOf(Content content) {
        return keyOf(frames, content);
    }

    private int slotOf(Content content) {
        return keyOf(slots, content);
    }

    private static int keyOf(TreeMap<Integer, Content> map, Content content) {
        for (int key : map.keySet()) {
            if (map.get(key) == content) {
                return key;
            }
        }
        return -1;
    }

    private int sharers(Content content) {
        int sharers = 0;
        for (Page[] pages : processes) {
            for (Page page : pages) {
                if (page != null && page.content == content) {
                    sharers++;
                }
            }
        }
        return sharers;
    }

    private int mapped(int process) {
        int mapped = 0;
        for (Page page : processes.get(process)) {
            mapped += page == null ? 0 : 1;
        }
        return mapped;
    }

    private Page addressed(int process, int address) {
        createdProcess(process);
        if (address < 0 || address > 63) {
            throw new IndexOutOfBoundsException();
        }
        liveProcess(process);
        Page page = processes.get(process)[address / 4];
        if (page == null) {
            throw new IllegalArgumentException();
        }
        return page;
    }

    private void createdProcess(int process) {
        if (process < 0 || process >= processes.size()) {
            throw new IndexOutOfBoundsException();
        }
    }

    private void liveProcess(int process) {
        if (!lives.get(process)) {
            throw new NoSuchElementException();
        }
    }

    private static void existingPage(int page) {
        if (page < 0 || page > 15) {
            throw new IndexOutOfBoundsException();
        }
    }

    private void existingFrame(int frame) {
        if (frame < 0 || frame >= frameNumber) {
            throw new IndexOutOfBoundsException();
        }
    }

    private void meet(String event) {
        met.merge(event, 1, Integer::sum);
    }
}
