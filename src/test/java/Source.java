import com.sun.source.tree.CompilationUnitTree;
import com.sun.source.tree.Tree;
import com.sun.source.util.JavacTask;
import com.sun.source.util.TreePath;
import com.sun.source.util.TreePathScanner;
import com.sun.source.util.Trees;
import java.io.IOException;
import java.nio.file.Path;
import java.util.List;
import java.util.function.Consumer;
import javax.lang.model.element.Element;
import javax.lang.model.type.TypeMirror;
import javax.tools.JavaCompiler;
import javax.tools.StandardJavaFileManager;
import javax.tools.ToolProvider;

/** A Java file as the compiler sees it: a tree whose names and types are known. */
final class Source {
    private final Trees trees;
    private final CompilationUnitTree unit;

    Source(Path file) throws IOException {
        JavaCompiler compiler = ToolProvider.getSystemJavaCompiler();
        try (StandardJavaFileManager files = compiler.getStandardFileManager(null, null, null)) {
            JavacTask task = (JavacTask) compiler.getTask(null, files, null, List.of("-proc:none"), null,
                files.getJavaFileObjects(file));
            unit = task.parse().iterator().next();
            task.analyze();
            trees = Trees.instance(task);
        }
    }

    /** Hands over each part of the file, with the parts that it stands in. */
    void each(Consumer<TreePath> look) {
        new TreePathScanner<Void, Void>() {
            @Override
            public Void scan(Tree tree, Void nothing) {
                if (tree != null) look.accept(new TreePath(getCurrentPath(), tree));
                return super.scan(tree, nothing);
            }
        }.scan(new TreePath(unit), null);
    }

    Element element(TreePath path) {
        return trees.getElement(path);
    }

    TypeMirror type(TreePath path) {
        return trees.getTypeMirror(path);
    }

    /** Whether the compiler put it there itself, as it does a class's constructor. */
    boolean isUnwritten(Tree tree) {
        return trees.getSourcePositions().getEndPosition(unit, tree) < 0;
    }

    long line(Tree tree) {
        return unit.getLineMap().getLineNumber(trees.getSourcePositions().getStartPosition(unit, tree));
    }

    long lines(Tree tree) {
        return unit.getLineMap().getLineNumber(trees.getSourcePositions().getEndPosition(unit, tree)) - line(tree) + 1;
    }

    /** The nearest part of a kind around another; null without one. */
    static TreePath around(TreePath path, Class<? extends Tree> kind) {
        TreePath at = path.getParentPath();
        while (at != null && !kind.isInstance(at.getLeaf())) at = at.getParentPath();
        return at;
    }
}
