import com.sun.source.tree.CompilationUnitTree;
import com.sun.source.tree.Tree;
import com.sun.source.util.JavacTask;
import com.sun.source.util.TreePath;
import com.sun.source.util.Trees;
import java.io.IOException;
import java.nio.file.Path;
import java.util.List;
import javax.lang.model.element.Element;
import javax.lang.model.type.TypeMirror;
import javax.tools.JavaCompiler;
import javax.tools.StandardJavaFileManager;
import javax.tools.ToolProvider;

/** The program's source as the compiler reads it, with the meaning of every name. */
final class Source {
    private static final Path FILE = Path.of("src/main/java/SharedSyntax.java");

    final CompilationUnitTree unit;
    private final Trees trees;

    Source() throws IOException {
        JavaCompiler compiler = ToolProvider.getSystemJavaCompiler();
        // Not closed: the trees that are handed out still use it.
        StandardJavaFileManager files = compiler.getStandardFileManager(null, null, null);
        List<String> options = List.of("--release", "17", "-proc:none");
        JavacTask task = (JavacTask) compiler.getTask(null, files, null, options, null, files.getJavaFileObjects(FILE));
        unit = task.parse().iterator().next();
        task.analyze();
        trees = Trees.instance(task);
    }

    Element element(Tree tree) {
        return trees.getElement(path(tree));
    }

    TypeMirror type(Tree tree) {
        return trees.getTypeMirror(path(tree));
    }

    long firstLine(Tree tree) {
        return unit.getLineMap().getLineNumber(trees.getSourcePositions().getStartPosition(unit, tree));
    }

    long lastLine(Tree tree) {
        return unit.getLineMap().getLineNumber(trees.getSourcePositions().getEndPosition(unit, tree));
    }

    private TreePath path(Tree tree) {
        return TreePath.getPath(unit, tree);
    }
}
