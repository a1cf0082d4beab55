import com.sun.source.tree.CompilationUnitTree;
import com.sun.source.util.JavacTask;
import com.sun.source.util.Trees;
import java.io.IOException;
import java.nio.file.Path;
import java.util.List;
import javax.tools.JavaCompiler;
import javax.tools.StandardJavaFileManager;
import javax.tools.ToolProvider;

/**
 * The class keeps to ../shared/LANGUAGE.md, as far as its text shows it: rules 1 to 6, 8 and 10 to
 * 13, and of rule 9 that no loop is without a condition. Rule 7 is for the reader, and for the
 * random runs.
 */
public final class LanguageTest {
    private static final Path PROGRAM = Path.of("src/main/java/CaptionAlbum.java");
    private static final int DEEPEST_CALLS = 8;

    private LanguageTest() {
    }

    public static void main(String[] args) throws IOException {
        JavaCompiler compiler = ToolProvider.getSystemJavaCompiler();
        try (StandardJavaFileManager files = compiler.getStandardFileManager(null, null, null)) {
            JavacTask task = (JavacTask) compiler.getTask(null, files, null, null, null,
                    files.getJavaFileObjects(PROGRAM));
            for (CompilationUnitTree unit : task.parse()) {
                task.analyze();
                check(unit, Trees.instance(task));
            }
        }
        Due.end("LanguageTest");
    }

    private static void check(CompilationUnitTree unit, Trees trees) {
        LanguageRules rules = new LanguageRules(unit, trees);
        Due.is("package (rule 1)", unit.getPackage() == null, true);
        Due.is("classes of the file (rule 1)", unit.getTypeDecls().size(), 1);
        rules.scan(unit, null);
        Due.is("methods were looked at", rules.methods() > 50, true);
        Due.is("offences against the rules", rules.offences(), List.of());
        Due.is("at most 12 classes (rule 11)", rules.classes() <= 12, true);
        List<String> deepest = rules.deepestCalls();
        Due.is("calls " + deepest + " are not too deep (rule 11)",
                deepest.size() <= DEEPEST_CALLS, true);
    }
}
