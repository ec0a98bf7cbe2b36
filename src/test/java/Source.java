import com.sun.source.tree.ClassTree;
import com.sun.source.tree.CompilationUnitTree;
import com.sun.source.tree.MethodInvocationTree;
import com.sun.source.tree.MethodTree;
import com.sun.source.tree.NewClassTree;
import com.sun.source.tree.Tree;
import com.sun.source.util.JavacTask;
import com.sun.source.util.TreePath;
import com.sun.source.util.TreePathScanner;
import com.sun.source.util.Trees;
import java.io.IOException;
import java.nio.file.Path;
import java.util.ArrayList;
import java.util.LinkedHashMap;
import java.util.LinkedHashSet;
import java.util.List;
import java.util.Map;
import java.util.Set;
import javax.lang.model.element.Element;
import javax.lang.model.element.TypeElement;
import javax.tools.JavaCompiler;
import javax.tools.StandardJavaFileManager;
import javax.tools.ToolProvider;

/** A source file as the compiler reads it: all its places, and which method calls which. */
final class Source {
    private final CompilationUnitTree unit;
    private final Trees trees;
    private final List<TreePath> places = new ArrayList<>();
    private final Map<Element, Set<Element>> calls = new LinkedHashMap<>();

    Source(Path file) throws IOException {
        JavaCompiler compiler = ToolProvider.getSystemJavaCompiler();
        StandardJavaFileManager files = compiler.getStandardFileManager(null, null, null);
        JavacTask task = (JavacTask) compiler.getTask(null, files, null,
            List.of("--release", "17", "-proc:none"), null, files.getJavaFileObjects(file));
        unit = task.parse().iterator().next();
        task.analyze();
        trees = Trees.instance(task);
        new Walk().scan(unit, null);
    }

    private final class Walk extends TreePathScanner<Void, Void> {
        @Override
        public Void scan(Tree tree, Void nothing) {
            if (tree != null && getCurrentPath() != null) {
                places.add(new TreePath(getCurrentPath(), tree));
            }
            return super.scan(tree, nothing);
        }

        @Override
        public Void visitMethodInvocation(MethodInvocationTree call, Void nothing) {
            noteCall();
            return super.visitMethodInvocation(call, nothing);
        }

        @Override
        public Void visitNewClass(NewClassTree made, Void nothing) {
            noteCall();
            return super.visitNewClass(made, nothing);
        }

        private void noteCall() {
            for (Element caller : callersAt(getCurrentPath())) {
                calls.computeIfAbsent(caller, c -> new LinkedHashSet<>()).add(trees.getElement(getCurrentPath()));
            }
        }
    }

    List<TreePath> places() {
        return places;
    }

    Element elementAt(TreePath place) {
        return trees.getElement(place);
    }

    /** The method or constructor around a place; what initialises a field is in each constructor. */
    List<Element> callersAt(TreePath place) {
        for (TreePath at = place; at != null; at = at.getParentPath()) {
            if (at.getLeaf() instanceof MethodTree) {
                return List.of(trees.getElement(at));
            }
            if (at.getLeaf() instanceof ClassTree) {
                List<Element> constructors = new ArrayList<>();
                for (Element member : trees.getElement(at).getEnclosedElements()) {
                    if (member.getSimpleName().contentEquals("<init>")) {
                        constructors.add(member);
                    }
                }
                return constructors;
            }
        }
        return List.of();
    }

    boolean isOwn(Element element) {
        Element top = element;
        while (top.getEnclosingElement() instanceof TypeElement) {
            top = top.getEnclosingElement();
        }
        return top.getSimpleName().contentEquals("PolesInALake");
    }

    /** Whether it stands in the file or in a class, not in a method. */
    boolean isInClass(TreePath place) {
        Tree around = place.getParentPath().getLeaf();
        return around == unit || around instanceof ClassTree;
    }

    int linesOf(TreePath place) {
        long first = trees.getSourcePositions().getStartPosition(unit, place.getLeaf());
        long last = trees.getSourcePositions().getEndPosition(unit, place.getLeaf());
        return (int) (unit.getLineMap().getLineNumber(last) - unit.getLineMap().getLineNumber(first)) + 1;
    }

    String whereIs(TreePath place) {
        long at = trees.getSourcePositions().getStartPosition(unit, place.getLeaf());
        return "line " + unit.getLineMap().getLineNumber(at);
    }

    /** How many calls stand open at most, this one with them; a recursion is deeper than any bound. */
    int depthFrom(Element method, int most) {
        int deepest = 0;
        if (most > 0) {
            for (Element called : calls.getOrDefault(method, Set.of())) {
                deepest = Math.max(deepest, depthFrom(called, most - 1));
            }
        }
        return deepest + 1;
    }
}
