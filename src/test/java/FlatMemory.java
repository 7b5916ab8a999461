/**
 * What the words of a memory are if there is no paging at all: each private page has words of its
 * own, each shared page those of its segment. Frames, slots and copies must never show in a word.
 */
final class FlatMemory {
    private final int[][][] words = new int[10][16][];
    private final boolean[][] isShared = new boolean[10][16];
    private final int[][][] segments = new int[4][6][4];

    void fork(int parent, int child) {
        for (int page = 0; page < 16; page++) {
            int[] own = words[parent][page];
            isShared[child][page] = isShared[parent][page];
            words[child][page] = own == null || isShared[parent][page] ? own : own.clone();
        }
    }

    void map(int process, int page) {
        words[process][page] = new int[4];
        isShared[process][page] = false;
    }

    void attach(int process, int page, int segment, int index) {
        words[process][page] = segments[segment][index];
        isShared[process][page] = true;
    }

    int read(int process, int address) {
        return words[process][address / 4][address % 4];
    }

    int write(int process, int address, int word) {
        int before = read(process, address);
        words[process][address / 4][address % 4] = word;
        return before;
    }
}
