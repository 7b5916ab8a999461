import com.sun.source.tree.CompilationUnitTree;
import com.sun.source.util.JavacTask;
import com.sun.source.util.Trees;
import java.io.IOException;
import java.nio.file.Files;
import java.nio.file.Path;
import java.util.List;
import java.util.Set;
import java.util.TreeSet;
import javax.tools.JavaCompiler;
import javax.tools.StandardJavaFileManager;
import javax.tools.ToolProvider;

/**
 * The rules of ../shared/LANGUAGE.md, as far as they can be seen in the source: javac reads it, and
 * LanguageScanner goes through what javac has read.
 */
public final class LanguageTest {
    private static final Path SOURCE = Path.of("src/main/java/PagedMemory.java");
    private static final int DEEPEST_CALL = 8;
    private static final int MOST_CLASSES = 12;

    public static void main(String[] args) throws IOException {
        String text = Files.readString(SOURCE);
        Runs.due("rule 4: signs of the source", text.chars().allMatch(c -> c < 128), true);
        Set<String> broken = new TreeSet<>();
        LanguageScanner scanner = scanned(SOURCE, broken);
        Runs.due("the rules that the source breaks", String.join("\n", broken), "");
        Runs.due("rule 11: classes", scanner.classes() > 0 && scanner.classes() <= MOST_CLASSES, true);
        List<String> chain = scanner.calls().longestChain();
        System.out.println("the longest chain of calls: " + String.join(" > ", chain));
        Runs.due("rule 8: methods that call themselves", scanner.calls().recursive(), new TreeSet<>());
        Runs.due("rule 11: the depth of calls", chain.size() > 1 && chain.size() <= DEEPEST_CALL, true);
        Runs.finish();
    }

    static LanguageScanner scanned(Path source, Set<String> broken) throws IOException {
        JavaCompiler compiler = ToolProvider.getSystemJavaCompiler();
        try (StandardJavaFileManager files = compiler.getStandardFileManager(null, null, null)) {
            JavacTask task = (JavacTask) compiler.getTask(null, files, null, List.of("--release", "17"), null,
                    files.getJavaFileObjects(source));
            Iterable<? extends CompilationUnitTree> units = task.parse();
            task.analyze();
            LanguageScanner scanner = new LanguageScanner(Trees.instance(task), broken);
            for (CompilationUnitTree unit : units) {
                scanner.scan(unit, null);
            }
            return scanner;
        }
    }
}
