import java.lang.reflect.Constructor;
import java.lang.reflect.Executable;
import java.lang.reflect.Field;
import java.lang.reflect.Method;
import java.lang.reflect.Modifier;
import java.util.ArrayList;
import java.util.Arrays;
import java.util.HashSet;
import java.util.List;
import java.util.Set;
import java.util.TreeSet;

/** The document's public face: all that it has, with its types and exceptions, and nothing besides. */
public final class FaceTest {
    private static final int LINES = 29;

    public static void main(String[] args) {
        asTheFaceSays();
        asThePromisesSay();
        nothingBesides();
        namesOfTheFace();
        Runs.finish();
    }

    private static void asTheFaceSays() {
        List<String> face = new Document().face();
        Runs.due("the lines of the face", face.size(), LINES);
        Set<String> want = new TreeSet<>();
        for (String line : face) {
            want.add(withoutNames(line));
        }
        Runs.due("the public face", visible(), want);
        int modifiers = PagedMemory.class.getModifiers();
        Runs.due("a public final class", Modifier.isPublic(modifiers) && Modifier.isFinal(modifiers), true);
        Runs.due("its package", PagedMemory.class.getPackageName(), "");
    }

    private static void asThePromisesSay() {
        Document document = new Document();
        Set<String> want = new TreeSet<>();
        for (int promise = 1; promise <= Document.LAST_PROMISE; promise++) {
            want.add(withoutNames(document.signatureOf(promise)));
        }
        Runs.due("the signatures of the promises", visible(), want);
    }

    /** "int map(int process, int page) throws .." without the names of the parameters. */
    private static String withoutNames(String signature) {
        return signature.replaceAll("\\b(int|long|boolean|double) (\\w+)(?=[,)])", "$1");
    }

    private static Set<String> visible() {
        Set<String> found = new TreeSet<>();
        for (Executable member : members()) {
            if (!Modifier.isPrivate(member.getModifiers())) {
                Runs.due("public " + member, Modifier.isPublic(member.getModifiers()), true);
                Runs.due("of objects " + member, Modifier.isStatic(member.getModifiers()), false);
                found.add(told(member));
            }
        }
        return found;
    }

    private static List<Executable> members() {
        List<Executable> all = new ArrayList<>(Arrays.asList(PagedMemory.class.getDeclaredConstructors()));
        all.addAll(Arrays.asList(PagedMemory.class.getDeclaredMethods()));
        return all;
    }

    private static String told(Executable member) {
        String type = member instanceof Method method ? method.getReturnType() + " " : "";
        String exceptions = names(member.getExceptionTypes());
        return type + member.getName() + "(" + names(member.getParameterTypes()) + ")"
                + (exceptions.isEmpty() ? "" : " throws " + exceptions);
    }

    private static String names(Class<?>[] types) {
        List<String> names = new ArrayList<>();
        for (Class<?> type : types) {
            names.add(type.getSimpleName());
        }
        return String.join(", ", names);
    }

    private static void nothingBesides() {
        Constructor<?>[] constructors = PagedMemory.class.getDeclaredConstructors();
        Runs.due("constructors", constructors.length, 1);
        for (Field field : PagedMemory.class.getDeclaredFields()) {
            Runs.due("rule 1: private " + field, Modifier.isPrivate(field.getModifiers()), true);
        }
        for (Class<?> inside : PagedMemory.class.getDeclaredClasses()) {
            int kind = inside.getModifiers();
            boolean isHidden = !Modifier.isPublic(kind) && !Modifier.isProtected(kind);
            Runs.due("rule 1: " + inside, Modifier.isStatic(kind) && isHidden, true);
        }
        Runs.due("above it", PagedMemory.class.getSuperclass(), Object.class);
        Runs.due("its interfaces", PagedMemory.class.getInterfaces().length, 0);
    }

    private static void namesOfTheFace() {
        Set<String> open = new HashSet<>();
        List<Method> hidden = new ArrayList<>();
        for (Method method : PagedMemory.class.getDeclaredMethods()) {
            if (Modifier.isPublic(method.getModifiers())) {
                open.add(method.getName());
            } else {
                hidden.add(method);
            }
        }
        for (Class<?> inside : PagedMemory.class.getDeclaredClasses()) {
            hidden.addAll(Arrays.asList(inside.getDeclaredMethods()));
        }
        for (Method method : hidden) {
            Runs.due("rule 1: a name of the face at " + method, open.contains(method.getName()), false);
        }
    }
}
