import java.lang.reflect.InvocationTargetException;
import java.lang.reflect.Method;
import java.util.HashMap;
import java.util.Map;
import java.util.regex.Matcher;
import java.util.regex.Pattern;

/**
 * Runs of calls on new objects, written as the document writes them: "start() = 0; map(0, 2) = 1".
 * An answer throws.E means that the call throws E itself, not a class below it; after such a call
 * everything that can be asked must be as before. A fraction a/b is the nearest double.
 */
final class Runs {
    private static final Pattern CALL = Pattern.compile("(\\w+)\\(([^)]*)\\) = (\\S+)");
    private static final Map<String, Method> METHODS = new HashMap<>();
    private static int answers = 0;
    private static int wrong = 0;

    static {
        for (Method method : PagedMemory.class.getDeclaredMethods()) {
            METHODS.put(method.getName(), method);
        }
    }

    private Runs() {
    }

    static void run(String name, String... parts) {
        PagedMemory memory = new PagedMemory();
        for (String call : String.join(";", parts).split(";")) {
            if (!call.isBlank()) {
                check(name, memory, call.trim());
            }
        }
    }

    static void due(String name, Object got, Object want) {
        answers++;
        if (!got.equals(want)) {
            wrong++;
            System.out.println(name + " answered " + got + ", due is " + want);
        }
    }

    static void finish() {
        System.out.println(answers + " answers, " + wrong + " of them not as due");
        if (wrong != 0 || answers == 0) {
            System.exit(1);
        }
    }

    private static void check(String name, PagedMemory memory, String text) {
        Matcher matcher = CALL.matcher(text);
        if (!matcher.matches()) {
            throw new IllegalArgumentException("not a call with its answer: " + text);
        }
        String before = everythingAsked(memory);
        String got = answer(memory, matcher.group(1), numbers(matcher.group(2)));
        due(name + ": " + text, got, plain(matcher.group(3)));
        if (got.startsWith("throws.")) {
            due(name + ": what is behind " + text, everythingAsked(memory), before);
        }
    }

    private static int[] numbers(String list) {
        if (list.isBlank()) {
            return new int[0];
        }
        String[] texts = list.split(",");
        int[] numbers = new int[texts.length];
        for (int i = 0; i < texts.length; i++) {
            numbers[i] = Integer.parseInt(texts[i].trim());
        }
        return numbers;
    }

    private static String plain(String due) {
        int slash = due.indexOf('/');
        if (slash < 0) {
            return due;
        }
        double above = Double.parseDouble(due.substring(0, slash));
        return String.valueOf(above / Double.parseDouble(due.substring(slash + 1)));
    }

    static String answer(PagedMemory memory, String name, int... arguments) {
        return answer(memory, METHODS.get(name), arguments);
    }

    static String answer(Object object, Method method, int... arguments) {
        Object[] boxed = new Object[arguments.length];
        for (int i = 0; i < arguments.length; i++) {
            boxed[i] = arguments[i];
        }
        try {
            return String.valueOf(method.invoke(object, boxed));
        } catch (InvocationTargetException e) {
            return "throws." + e.getCause().getClass().getSimpleName();
        } catch (IllegalAccessException e) {
            throw new IllegalArgumentException(e);
        }
    }

    /** All that can be asked without a change, in one text. */
    static String everythingAsked(PagedMemory memory) {
        StringBuilder text = new StringBuilder();
        text.append(memory.digest()).append(' ').append(memory.freeFrames()).append(' ');
        text.append(memory.freeSlots()).append(' ').append(memory.swapRate()).append(' ');
        for (int process = 0; process < 10; process++) {
            String set = answer(memory, "workingSet", process);
            if (set.startsWith("throws.")) {
                break;
            }
            text.append(set).append(' ');
            for (int page = 0; page < 16; page++) {
                text.append(memory.sharersOf(process, page)).append(' ');
            }
        }
        return text.toString();
    }

    /** "map(process, page)" for the pages from the first to the last, of a process without pages. */
    static String maps(int process, int first, int last) {
        StringBuilder calls = new StringBuilder();
        for (int page = first; page <= last; page++) {
            calls.append("map(" + process + ", " + page + ") = " + (page - first + 1) + "; ");
        }
        return calls.toString();
    }

    /** A write of 100 + page to word 0 of each of these pages, which had 0 there. */
    static String writes(int process, int... pages) {
        StringBuilder calls = new StringBuilder();
        for (int page : pages) {
            calls.append("write(" + process + ", " + 4 * page + ", " + (100 + page) + ") = 0; ");
        }
        return calls.toString();
    }

    /** A read of word 0 of each of these pages, which has the same answer each time. */
    static String reads(int process, int answer, int... pages) {
        StringBuilder calls = new StringBuilder();
        for (int page : pages) {
            calls.append("read(" + process + ", " + 4 * page + ") = " + answer + "; ");
        }
        return calls.toString();
    }

    static String repeated(String call, int times) {
        return (call + "; ").repeat(times);
    }
}
