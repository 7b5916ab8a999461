import com.sun.management.ThreadMXBean;
import java.lang.management.ManagementFactory;
import java.lang.reflect.Method;
import java.lang.reflect.Modifier;
import java.util.ArrayList;
import java.util.Arrays;
import java.util.Comparator;
import java.util.List;
import java.util.Random;

/**
 * What an object takes for its 512 calls, and that no call, with whatever numbers and in whatever
 * state, behind the 512th one too, throws anything but what its line of the face names.
 */
public final class LimitsTest {
    private static final int CALLS = 512;
    /** Room for some 900 contents with their words: a call makes one at most, but for four createSegments. */
    private static final long BYTES = 64 * 1024;
    private static final int LONG_RUNS = 60;
    private static final int CALLS_OF_A_LONG_RUN = 4 * CALLS;
    private static final int[] EXTREMES = {Integer.MIN_VALUE, Integer.MIN_VALUE + 1, -65, -17, -16, -2, -1,
        64, 65, 160, 1 << 26, 1 << 28, 1 << 30, Integer.MAX_VALUE - 1, Integer.MAX_VALUE};

    public static void main(String[] args) {
        room();
        anyCalls();
        Runs.finish();
    }

    // ---- the room

    private static void room() {
        measured("maps and unmaps", LimitsTest::mapsAndUnmaps);
        measured("segments", LimitsTest::segments);
        measured("copies", LimitsTest::copies);
        measured("accesses with the clock", LimitsTest::accesses);
        measured("questions", LimitsTest::questions);
    }

    /** The first time classes may be loaded, which counts as well; so the run is made twice. */
    private static void measured(String name, Runnable run) {
        ThreadMXBean threads = (ThreadMXBean) ManagementFactory.getThreadMXBean();
        run.run();
        long before = threads.getCurrentThreadAllocatedBytes();
        run.run();
        long taken = threads.getCurrentThreadAllocatedBytes() - before;
        System.out.println(name + ": " + taken + " bytes");
        Runs.due("512 calls, " + name + ", take " + taken + " bytes, which is little", taken <= BYTES, true);
    }

    private static void mapsAndUnmaps() {
        PagedMemory memory = new PagedMemory();
        memory.start();
        for (int call = 1; call < CALLS; call += 2) {
            memory.map(0, 0);
            memory.unmap(0, 0);
        }
    }

    private static void segments() {
        PagedMemory memory = new PagedMemory();
        for (int segment = 0; segment < 4; segment++) {
            memory.createSegment(6);
        }
        memory.start();
        for (int call = 5; call + 1 < CALLS; call += 2) {
            memory.attach(0, call % 16, call % 4, call % 6);
            memory.unmap(0, call % 16);
        }
    }

    /** Each child parts from ten of the first process's pages: with more, the slots would not be enough. */
    private static void copies() {
        PagedMemory memory = new PagedMemory();
        memory.start();
        for (int page = 0; page < 16; page++) {
            memory.map(0, page);
            memory.write(0, 4 * page, 1);
        }
        for (int child = 1; child < 10; child++) {
            memory.fork(0);
            for (int page = 0; page < 10; page++) {
                memory.write(child, 4 * page, child);
                memory.read(0, 4 * page);
                memory.read(child, 4 * page);
                memory.write(0, 4 * page, child);
                memory.write(child, 4 * page, child);
            }
            memory.exit(child);
        }
    }

    private static void accesses() {
        PagedMemory memory = new PagedMemory();
        memory.start();
        for (int page = 0; page < 16; page++) {
            memory.map(0, page);
        }
        for (int call = 17; call < CALLS; call++) {
            memory.write(0, 4 * (call * 7 % 16), call);
        }
    }

    private static void questions() {
        PagedMemory memory = new PagedMemory();
        memory.start();
        memory.map(0, 3);
        memory.write(0, 12, 1);
        long sum = 0;
        for (int call = 3; call + 4 < CALLS; call += 5) {
            sum += memory.digest() + memory.workingSet(0) + memory.freeSlots() + memory.sync() + memory.frameOf(0, 3);
        }
        Runs.due("the questions' answers", sum != 0, true);
    }

    // ---- any calls

    private static void anyCalls() {
        List<Method> face = face();
        for (int run = 0; run < LONG_RUNS; run++) {
            Random random = new Random(run);
            PagedMemory memory = new PagedMemory();
            String wrong = "";
            for (int call = 0; call < CALLS_OF_A_LONG_RUN && wrong.isEmpty(); call++) {
                wrong = unnamedException(memory, face.get(random.nextInt(face.size())), random);
            }
            Runs.due("an exception that the face does not name, in long run " + run, wrong, "");
        }
    }

    /** The order of reflection is free; by name, the runs are the same each time. */
    private static List<Method> face() {
        List<Method> face = new ArrayList<>();
        for (Method method : PagedMemory.class.getDeclaredMethods()) {
            if (Modifier.isPublic(method.getModifiers())) {
                face.add(method);
            }
        }
        face.sort(Comparator.comparing(Method::getName));
        return face;
    }

    private static String unnamedException(PagedMemory memory, Method method, Random random) {
        int[] numbers = new int[method.getParameterCount()];
        for (int i = 0; i < numbers.length; i++) {
            boolean isAddress = i == 1 && (method.getName().equals("read") || method.getName().equals("write"));
            numbers[i] = random.nextInt(12) == 0 ? EXTREMES[random.nextInt(EXTREMES.length)]
                    : random.nextInt(isAddress ? 64 : i == 0 ? 10 : 16);
        }
        // Processes that have all exited would leave little to look at.
        if (method.getName().equals("exit") && random.nextInt(40) != 0) {
            return "";
        }
        String answer = Runs.answer(memory, method, numbers);
        boolean isNamed = !answer.startsWith("throws.");
        for (Class<?> named : method.getExceptionTypes()) {
            isNamed |= answer.equals("throws." + named.getSimpleName());
        }
        return isNamed ? "" : method.getName() + Arrays.toString(numbers) + " " + answer;
    }
}
