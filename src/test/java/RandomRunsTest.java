import java.lang.reflect.Method;
import java.lang.reflect.Modifier;
import java.util.Arrays;
import java.util.HashMap;
import java.util.Map;
import java.util.Random;
import java.util.TreeMap;

/**
 * Random runs, the same ones each time, of up to 512 calls: every answer is compared with that of the
 * model and, where it is a word, with that of the flat memory.
 */
public final class RandomRunsTest {
    private static final int RUNS = 2000;
    private static final int CALLS = 512;
    private static final String[] EVENTS = {
        "a blank content is evicted", "a cluster is shortened", "a cluster of 1", "a cluster of 2",
        "a cluster of 3", "a cluster of 4", "a copy evicts its original", "a prefetch", "a sync",
        "a sync without a slot", "no frame can be had", "no frame for a prefetch",
        "the clock finds no slot", "the clock frees a frame", "the clock writes out",
        "the oldest clean frame", "the oldest of dirty frames",
    };
    private static final String[] ASKED = {
        "isLive", "mapping", "time", "hand", "frameOf", "slotOf", "sharersOf", "frameState",
        "latestUse", "isReferenced", "freeFrames", "freeSlots", "workingSet", "count", "swapRate",
    };
    private static final Map<String, Method> REAL = new HashMap<>();
    private static final Map<String, Method> MODEL = new HashMap<>();
    private static final TreeMap<String, Integer> MET = new TreeMap<>();

    private final Random random;
    private final PagedMemory real = new PagedMemory();
    private final Model model = new Model();
    private final FlatMemory flat = new FlatMemory();
    private final StringBuilder told = new StringBuilder();
    /** How this run is: how many of a hundred accesses write, change the pages, or are near the last. */
    private final int writes;
    private final int changes;
    private final int near;
    private final int wrongInputs;
    private int made = 0;
    private int processes = 0;
    private int lastAddress = 0;
    private boolean differs = false;

    private RandomRunsTest(long seed) {
        random = new Random(seed);
        writes = 10 + random.nextInt(91);
        changes = random.nextInt(3) == 0 ? 30 : 6;
        near = random.nextInt(80);
        wrongInputs = random.nextInt(4) == 0 ? 20 : 2;
    }

    public static void main(String[] args) {
        for (Method method : PagedMemory.class.getDeclaredMethods()) {
            REAL.put(method.getName(), method);
        }
        for (Method method : Model.class.getDeclaredMethods()) {
            if (Modifier.isPublic(method.getModifiers())) {
                MODEL.put(method.getName(), method);
            }
        }
        for (int run = 0; run < RUNS; run++) {
            RandomRunsTest test = new RandomRunsTest(run);
            test.run();
            test.model.met.forEach((event, times) -> MET.merge(event, times, Integer::sum));
            Runs.due("random run " + run, test.differs ? test.told.toString() : "as due", "as due");
        }
        for (String event : EVENTS) {
            Runs.due("met " + event, MET.containsKey(event), true);
        }
        Runs.due("met a content twice in a cluster", MET.containsKey("twice in a cluster"), false);
        System.out.println(MET);
        Runs.finish();
    }

    private void run() {
        settings();
        while (made < CALLS - 1 && !differs) {
            int dice = random.nextInt(100);
            if (dice < changes) {
                change();
            } else if (dice < changes + 6) {
                ask();
            } else {
                access();
            }
        }
        both("digest");
    }

    private void settings() {
        if (random.nextInt(5) != 0) {
            both("setFrames", random.nextInt(3) == 0 ? 4 + random.nextInt(9) : 4 + random.nextInt(2));
        }
        if (random.nextInt(3) != 0) {
            both("setWindow", random.nextBoolean() ? random.nextInt(6) : random.nextInt(51));
        }
        for (int segment = random.nextInt(4); segment > 0; segment--) {
            both("createSegment", 1 + random.nextInt(6));
        }
        for (int process = 1 + random.nextInt(3); process > 0; process--) {
            both("start");
            int last = random.nextInt(16);
            for (int page = random.nextInt(3); page <= last; page++) {
                both("map", processes - 1, page);
            }
        }
    }

    private void change() {
        switch (random.nextInt(24)) {
            case 0: both("start"); break;
            case 1: both("fork", process()); break;
            case 2: both("fork", process()); break;
            case 3: both("exit", random.nextInt(3) == 0 ? process() : -1); break;
            case 4: both("createSegment", number(1, 6)); break;
            case 5: both("setFrames", number(4, 12)); break;
            case 6: both("setWindow", number(0, 50)); break;
            case 7: both("sync"); break;
            case 8: unmapAllInFrames(process()); break;
            case 9: case 10: case 11: case 12:
                both("unmap", process(), number(0, 15)); break;
            case 13: case 14: case 15: case 16:
                both("attach", process(), number(0, 15), number(0, 3), number(0, 5)); break;
            default:
                both("map", process(), number(0, 15)); break;
        }
    }

    /** So that frames are free while contents are in slots alone: only then there are prefetches. */
    private void unmapAllInFrames(int process) {
        for (int page = 0; page < 16 && made < CALLS - 1; page++) {
            if (process >= 0 && process < processes && real.frameOf(process, page) >= 0) {
                both("unmap", process, page);
            }
        }
    }

    private void access() {
        if (random.nextInt(100) < near) {
            lastAddress = (lastAddress + random.nextInt(9)) % 64;
        } else {
            lastAddress = random.nextInt(64);
        }
        int address = random.nextInt(100) < wrongInputs ? number(0, 63) : lastAddress;
        if (random.nextInt(100) < writes) {
            both("write", process(), address, random.nextInt(8) == 0 ? 0 : random.nextInt());
        } else {
            both("read", process(), address);
        }
    }

    private void ask() {
        String name = ASKED[random.nextInt(ASKED.length)];
        int[] arguments = new int[REAL.get(name).getParameterCount()];
        if (arguments.length == 2) {
            arguments[0] = process();
            arguments[1] = number(0, 15);
        } else if (arguments.length == 1) {
            arguments[0] = name.equals("count") ? number(0, 5) : number(0, 11);
        }
        both(name, arguments);
    }

    private int process() {
        return random.nextInt(100) < wrongInputs ? number(0, 9) : random.nextInt(Math.max(processes, 1));
    }

    /** A number of the range, or now and then one that is beside it. */
    private int number(int least, int most) {
        if (random.nextInt(100) >= wrongInputs) {
            return least + random.nextInt(most - least + 1);
        }
        int[] beside = {least - 1, most + 1, Integer.MIN_VALUE, Integer.MAX_VALUE, -1, 64, least, most};
        return beside[random.nextInt(beside.length)];
    }

    private void both(String name, int... arguments) {
        made++;
        told.append(name).append(Arrays.toString(arguments));
        String got = Runs.answer(real, REAL.get(name), arguments);
        String want = Runs.answer(model, MODEL.get(name), arguments);
        told.append(" = ").append(got).append(";\n");
        if (!got.equals(want)) {
            fail("the model answers " + want);
        }
        if (real.digest() != model.digest()) {
            fail("the model has another digest");
        }
        if (!got.startsWith("throws.")) {
            follow(name, arguments, got);
        }
    }

    private void follow(String name, int[] a, String got) {
        switch (name) {
            case "start": processes++; break;
            case "fork": flat.fork(a[0], processes); processes++; break;
            case "map": flat.map(a[0], a[1]); break;
            case "attach": flat.attach(a[0], a[1], a[2], a[3]); break;
            case "read": word(got, flat.read(a[0], a[1])); break;
            case "write": word(got, flat.write(a[0], a[1], a[2])); break;
            default: break;
        }
    }

    private void word(String got, int want) {
        if (!got.equals(String.valueOf(want))) {
            fail("the flat memory has " + want);
        }
    }

    private void fail(String why) {
        if (!differs) {
            told.append("!! ").append(why).append('\n');
        }
        differs = true;
    }
}
