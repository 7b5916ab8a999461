import java.io.IOException;
import java.lang.reflect.Constructor;
import java.lang.reflect.Field;
import java.lang.reflect.Method;
import java.lang.reflect.Modifier;
import java.nio.file.Files;
import java.nio.file.Path;
import java.util.HashSet;
import java.util.Set;
import java.util.TreeSet;
import java.util.regex.Matcher;
import java.util.regex.Pattern;

/** The document's public face, and those rules of LANGUAGE.md that can be seen by looking. */
public final class FaceTest {
    private static final Path SOURCE = Path.of("src/main/java/PagedMemory.java");
    private static final String INDEX = "IndexOutOfBoundsException";
    private static final String GONE = ",NoSuchElementException";
    private static final String ILLEGAL = "IllegalArgumentException";
    private static final String STATE = "IllegalStateException";
    private static final String[] FACE = {
        "int setFrames(1) " + ILLEGAL + "," + STATE, "int setWindow(1) " + ILLEGAL,
        "int start(0) " + STATE, "int fork(1) " + INDEX + GONE + "," + STATE, "int exit(1) " + INDEX + GONE,
        "int map(2) " + INDEX + GONE + "," + ILLEGAL, "int createSegment(1) " + ILLEGAL + "," + STATE,
        "int attach(4) " + INDEX + GONE + "," + ILLEGAL, "boolean unmap(2) " + INDEX + GONE + "," + ILLEGAL,
        "boolean isLive(1) " + INDEX, "int mapping(2) " + INDEX,
        "int read(2) " + INDEX + GONE + "," + ILLEGAL + "," + STATE,
        "int write(3) " + INDEX + GONE + "," + ILLEGAL + "," + STATE, "int sync(0) ", "int time(0) ",
        "int hand(0) ", "int frameOf(2) " + INDEX, "int slotOf(2) " + INDEX, "int sharersOf(2) " + INDEX,
        "int frameState(1) " + INDEX, "int latestUse(1) " + INDEX, "boolean isReferenced(1) " + INDEX,
        "int freeFrames(0) ", "int freeSlots(0) ", "int workingSet(1) " + INDEX, "int count(1) " + INDEX,
        "double swapRate(0) ", "long digest(0) ",
    };
    /** What rules 2 to 6, 8 and 13 leave out; seen in the source without comments and texts. */
    private static final String[] LEFT_OUT = {
        "->", "::", "\\bfinally\\b", "\\bsynchronized\\b", "\\bassert\\b", "\\btry\\b", "\\bcatch\\b",
        "\\bMath\\.\\w+Exact\\b", "\\bhashCode\\b", "\\bequals\\b", "\\btoString\\b", "\\bSystem\\.(?!arraycopy)",
        "\\bThread\\b", "\\bRandom\\b", "\\bMap\\b", "\\bSet\\b", "\\bObject\\b", "\\bstatic \\{", "\\bpackage\\b",
        "\\bvar\\b", "\\bnative\\b", "\\bvolatile\\b", "\\bstream\\b", "while \\(true\\)", "for \\(;;\\)",
    };

    public static void main(String[] args) throws IOException {
        methods();
        otherMembers();
        source();
        Runs.finish();
    }

    private static void methods() {
        Set<String> open = new TreeSet<>();
        Set<String> openNames = new HashSet<>();
        for (Method method : PagedMemory.class.getDeclaredMethods()) {
            if (Modifier.isPublic(method.getModifiers())) {
                open.add(told(method));
                openNames.add(method.getName());
            }
        }
        Runs.due("the public methods", open, new TreeSet<>(Set.of(FACE)));
        Set<Class<?>> classes = new HashSet<>(Set.of(PagedMemory.class.getDeclaredClasses()));
        classes.add(PagedMemory.class);
        for (Class<?> each : classes) {
            for (Method method : each.getDeclaredMethods()) {
                boolean isFace = each == PagedMemory.class && Modifier.isPublic(method.getModifiers());
                if (!isFace) {
                    Runs.due("rule 1: a name of the face at " + method, openNames.contains(method.getName()), false);
                    Runs.due("rule 11: the parameters of " + method, method.getParameterCount() <= 7, true);
                }
                if (!isFace && each == PagedMemory.class) {
                    Runs.due("rule 1: private " + method, Modifier.isPrivate(method.getModifiers()), true);
                }
            }
        }
    }

    private static String told(Method method) {
        StringBuilder text = new StringBuilder();
        for (Class<?> exception : method.getExceptionTypes()) {
            text.append(text.length() == 0 ? "" : ",").append(exception.getSimpleName());
        }
        for (Class<?> parameter : method.getParameterTypes()) {
            Runs.due("a parameter of " + method.getName(), parameter, int.class);
        }
        return method.getReturnType() + " " + method.getName() + "(" + method.getParameterCount() + ") " + text;
    }

    private static void otherMembers() {
        int modifiers = PagedMemory.class.getModifiers();
        Runs.due("a public class", Modifier.isPublic(modifiers) && Modifier.isFinal(modifiers), true);
        Constructor<?>[] constructors = PagedMemory.class.getDeclaredConstructors();
        Runs.due("constructors", constructors.length, 1);
        Runs.due("its parameters", constructors[0].getParameterCount(), 0);
        Runs.due("it is public", Modifier.isPublic(constructors[0].getModifiers()), true);
        for (Field field : PagedMemory.class.getDeclaredFields()) {
            int kind = field.getModifiers();
            Runs.due("rule 1: private " + field, Modifier.isPrivate(kind), true);
            Runs.due("rule 5: final " + field, Modifier.isFinal(kind) || !Modifier.isStatic(kind), true);
        }
        for (Class<?> inside : PagedMemory.class.getDeclaredClasses()) {
            int kind = inside.getModifiers();
            boolean isHidden = !Modifier.isPublic(kind) && !Modifier.isProtected(kind);
            Runs.due("rule 1: " + inside, Modifier.isStatic(kind) && isHidden, true);
        }
    }

    private static void source() throws IOException {
        String text = Files.readString(SOURCE);
        String code = text.replaceAll("(?s)/\\*.*?\\*/", " ").replaceAll("//[^\n]*", " ")
                .replaceAll("\"[^\"]*\"", "\"\"");
        for (String pattern : LEFT_OUT) {
            Matcher matcher = Pattern.compile(pattern).matcher(code);
            Runs.due("LANGUAGE.md leaves out " + pattern, matcher.find(), false);
        }
        Matcher imports = Pattern.compile("import ([\\w.]+);").matcher(code);
        while (imports.find()) {
            Runs.due("an import", imports.group(1), "java.util.NoSuchElementException");
        }
        Runs.due("characters of the source", text.chars().allMatch(c -> c < 128), true);
    }
}
