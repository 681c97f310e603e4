import com.sun.source.tree.CompilationUnitTree;
import com.sun.source.tree.Tree;
import com.sun.source.util.JavacTask;
import com.sun.source.util.TreePath;
import com.sun.source.util.TreePathScanner;
import com.sun.source.util.Trees;
import java.io.IOException;
import java.nio.file.Path;
import java.util.ArrayList;
import java.util.List;
import javax.lang.model.element.Element;
import javax.lang.model.type.TypeMirror;
import javax.tools.JavaCompiler;
import javax.tools.StandardJavaFileManager;
import javax.tools.ToolProvider;

/** A Java file as the compiler sees it. */
final class Source {
    final CompilationUnitTree unit;
    private final Trees trees;

    Source(Path file) throws IOException {
        JavaCompiler compiler = ToolProvider.getSystemJavaCompiler();
        StandardJavaFileManager files = compiler.getStandardFileManager(null, null, null);
        JavacTask task = (JavacTask) compiler.getTask(null, files, null,
                List.of("-proc:none", "-Xlint:none"), null, files.getJavaFileObjects(file));
        unit = task.parse().iterator().next();
        task.analyze();
        trees = Trees.instance(task);
    }

    /** Every tree of the kind, with the trees round it. */
    List<TreePath> all(Class<? extends Tree> kind) {
        List<TreePath> found = new ArrayList<>();
        new TreePathScanner<Void, Void>() {
            @Override
            public Void scan(Tree tree, Void nothing) {
                if (kind.isInstance(tree)) {
                    found.add(new TreePath(getCurrentPath(), tree));
                }
                return super.scan(tree, nothing);
            }
        }.scan(new TreePath(unit), null);
        return found;
    }

    Element element(TreePath path) {
        return trees.getElement(path);
    }

    TypeMirror type(TreePath path) {
        return trees.getTypeMirror(path);
    }

    int lines(TreePath path) {
        long start = trees.getSourcePositions().getStartPosition(unit, path.getLeaf());
        long end = trees.getSourcePositions().getEndPosition(unit, path.getLeaf());
        return end < 0 ? 0 : (int) (unit.getLineMap().getLineNumber(end)
                - unit.getLineMap().getLineNumber(start) + 1);
    }

    /** Where in the file a tree stands, to be told. */
    String where(TreePath path) {
        long start = trees.getSourcePositions().getStartPosition(unit, path.getLeaf());
        return "line " + (start < 0 ? 0 : unit.getLineMap().getLineNumber(start));
    }

    /** The nearest tree of the kind that is round the path's end, null if there is none. */
    static TreePath round(TreePath path, Class<? extends Tree> kind) {
        TreePath at = path.getParentPath();
        while (at != null && !kind.isInstance(at.getLeaf())) {
            at = at.getParentPath();
        }
        return at;
    }
}
