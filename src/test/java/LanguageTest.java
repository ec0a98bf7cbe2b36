import com.sun.source.tree.ArrayAccessTree;
import com.sun.source.tree.AssignmentTree;
import com.sun.source.tree.BinaryTree;
import com.sun.source.tree.ClassTree;
import com.sun.source.tree.CompoundAssignmentTree;
import com.sun.source.tree.ForLoopTree;
import com.sun.source.tree.MethodTree;
import com.sun.source.tree.NewArrayTree;
import com.sun.source.tree.NewClassTree;
import com.sun.source.tree.ParenthesizedTree;
import com.sun.source.tree.Tree;
import com.sun.source.tree.UnaryTree;
import com.sun.source.tree.VariableTree;
import com.sun.source.tree.WhileLoopTree;
import com.sun.source.util.TreePath;
import java.io.IOException;
import java.nio.file.Path;
import java.util.EnumSet;
import java.util.HashSet;
import java.util.Set;
import java.util.function.Predicate;
import javax.lang.model.element.Element;
import javax.lang.model.element.ElementKind;
import javax.lang.model.element.Modifier;

/**
 * The rules of ../shared/LANGUAGE.md that can be seen in the source: what the compiler reads is
 * gone through place by place. Each check tells the rule's number.
 */
public final class LanguageTest {
    private static final Path FILE = Path.of("src/main/java/PolesInALake.java");
    private static final int MOST_PARAMETERS = 7;
    private static final int MOST_LINES = 60;
    private static final int MOST_CALLS_DEEP = 8;
    private static final int MOST_CLASSES = 12;
    private static final int MOST_FIELDS = 20;

    /** Rules 2, 5, 6: what no program may have; and what this one has no need of. */
    private static final Set<Tree.Kind> RULED_OUT = EnumSet.of(
        Tree.Kind.THROW, Tree.Kind.TRY, Tree.Kind.CATCH, Tree.Kind.SYNCHRONIZED, Tree.Kind.ASSERT,
        Tree.Kind.LAMBDA_EXPRESSION, Tree.Kind.MEMBER_REFERENCE, Tree.Kind.BINDING_PATTERN,
        Tree.Kind.INSTANCE_OF, Tree.Kind.PACKAGE, Tree.Kind.IMPORT, Tree.Kind.ANNOTATION,
        Tree.Kind.STRING_LITERAL, Tree.Kind.NULL_LITERAL, Tree.Kind.DOUBLE_LITERAL,
        Tree.Kind.FLOAT_LITERAL, Tree.Kind.ENUM, Tree.Kind.INTERFACE, Tree.Kind.RECORD,
        Tree.Kind.ANNOTATION_TYPE, Tree.Kind.DO_WHILE_LOOP, Tree.Kind.UNION_TYPE);

    /** Rule 4: of the library only these. */
    private static final Set<String> LIBRARY = Set.of(
        "java.lang.Math.min", "java.lang.Math.max", "java.lang.Math.abs",
        "java.lang.System.arraycopy", "java.lang.Object.<init>");

    /** Rule 3: no other types are used. */
    private static final String TYPES =
        "(int|long|boolean|void|int\\[\\]|boolean\\[\\]|PolesInALake(\\.\\w+(\\[\\])?)?)";

    private static Source source;

    public static void main(String[] args) throws IOException {
        source = new Source(FILE);
        Due.isTrue("the source has places", source.places().size() > 1000);
        for (TreePath place : source.places()) {
            Due.holdsTo(source.whereIs(place) + ": ");
            ruledOut(place);
            library(place);
            sizes(place);
            made(place);
            fields(place);
            constantRows(place);
            loops(place);
        }
        Due.holdsTo("");
        names();
        depths();
        Due.end();
    }

    private static void ruledOut(TreePath place) {
        Tree tree = place.getLeaf();
        Due.isTrue("rules 2, 5, 6: no " + tree.getKind(), !RULED_OUT.contains(tree.getKind()));
        boolean bare = tree.getKind() == Tree.Kind.BLOCK
            && place.getParentPath().getLeaf() instanceof ClassTree;
        Due.isTrue("rule 5: no initialiser block", !bare);
        boolean inMethod = tree instanceof ClassTree && !source.isInClass(place);
        Due.isTrue("rule 2: no class in a method", !inMethod);
    }

    private static void library(TreePath place) {
        Tree.Kind kind = place.getLeaf().getKind();
        if (kind == Tree.Kind.METHOD_INVOCATION || kind == Tree.Kind.NEW_CLASS) {
            Element called = source.elementAt(place);
            String name = called.getEnclosingElement() + "." + called.getSimpleName();
            Due.isTrue("rule 4: " + name, source.isOwn(called) || LIBRARY.contains(name));
        }
        if (place.getLeaf() instanceof VariableTree) {
            String type = source.elementAt(place).asType().toString();
            Due.isTrue("rule 3: a variable of " + type, type.matches(TYPES));
        }
        if (place.getLeaf() instanceof NewArrayTree) {
            Due.isTrue("rule 3: rows of one dimension",
                ((NewArrayTree) place.getLeaf()).getDimensions().size() <= 1);
        }
    }

    private static void sizes(TreePath place) {
        if (place.getLeaf() instanceof MethodTree) {
            MethodTree method = (MethodTree) place.getLeaf();
            Due.isTrue("rule 11: parameters of " + method.getName(),
                method.getParameters().size() <= MOST_PARAMETERS);
            Due.isTrue("rule 11: lines of " + method.getName(), source.linesOf(place) <= MOST_LINES);
        }
        if (place.getLeaf() instanceof ClassTree) {
            int fields = 0;
            int classes = 1;
            for (Element member : source.elementAt(place).getEnclosedElements()) {
                boolean own = member.getKind().isField() && !member.getModifiers().contains(Modifier.STATIC);
                fields += own ? 1 : 0;
                classes += member.getKind().isClass() ? 1 : 0;
            }
            Due.isTrue("rule 11: fields of a class", fields <= MOST_FIELDS);
            Due.isTrue("rule 11: classes", classes <= MOST_CLASSES);
        }
    }

    /** Rule 12, and more than it asks: rows and objects are made by constructors alone. */
    private static void made(TreePath place) {
        Tree tree = place.getLeaf();
        if (tree instanceof NewClassTree || tree instanceof NewArrayTree) {
            for (Element maker : source.callersAt(place)) {
                Due.isTrue("rule 12: made by " + maker, maker.getKind() == ElementKind.CONSTRUCTOR);
            }
        }
        if (tree instanceof NewClassTree) {
            Due.isTrue("rule 2: no class without a name", ((NewClassTree) tree).getClassBody() == null);
        }
    }

    private static void fields(TreePath place) {
        boolean field = place.getLeaf() instanceof VariableTree
            && place.getParentPath().getLeaf() instanceof ClassTree;
        if (!field) {
            return;
        }
        Element element = source.elementAt(place);
        if (element.getModifiers().contains(Modifier.STATIC)) {
            Due.isTrue("rule 5: " + element + " is final", element.getModifiers().contains(Modifier.FINAL));
            Tree value = ((VariableTree) place.getLeaf()).getInitializer();
            boolean writtenOut = value instanceof NewArrayTree
                && ((NewArrayTree) value).getInitializers() != null;
            String type = element.asType().toString();
            Due.isTrue("rule 5: " + element + " is a constant", type.equals("int") || type.equals("int[]") && writtenOut);
        }
    }

    /** Rule 5: a row that is a constant is never changed. */
    private static void constantRows(TreePath place) {
        Tree changed = null;
        if (place.getLeaf() instanceof AssignmentTree) {
            changed = ((AssignmentTree) place.getLeaf()).getVariable();
        } else if (place.getLeaf() instanceof CompoundAssignmentTree) {
            changed = ((CompoundAssignmentTree) place.getLeaf()).getVariable();
        } else if (place.getLeaf() instanceof UnaryTree) {
            changed = ((UnaryTree) place.getLeaf()).getExpression();
        }
        if (changed instanceof ArrayAccessTree) {
            TreePath row = new TreePath(new TreePath(place, changed), ((ArrayAccessTree) changed).getExpression());
            Element element = source.elementAt(row);
            Due.isTrue("rule 5: a row of its own is changed",
                element != null && !element.getModifiers().contains(Modifier.STATIC));
        }
    }

    /** Rule 9: a loop's lines tell a counter and its bound, and the counter moves. */
    private static void loops(TreePath place) {
        if (place.getLeaf() instanceof ForLoopTree) {
            ForLoopTree loop = (ForLoopTree) place.getLeaf();
            Due.isTrue("rule 9: a counter", loop.getInitializer().size() == 1
                && loop.getInitializer().get(0) instanceof VariableTree && loop.getUpdate().size() == 1);
            String counter = ((VariableTree) loop.getInitializer().get(0)).getName().toString();
            Due.isTrue("rule 9: a bound of " + counter, isBound(loop.getCondition(), counter));
            Due.isTrue("rule 9: " + counter + " moves",
                loop.getUpdate().get(0).toString().matches(counter + "(\\+\\+|--);"));
            Due.isTrue("rule 9: " + counter + " is moved by nothing else",
                !loop.getStatement().toString().matches("(?s).*\\b" + counter + "( [-+*/]?= |\\+\\+|--).*"));
        }
        if (place.getLeaf() instanceof WhileLoopTree) {
            WhileLoopTree loop = (WhileLoopTree) place.getLeaf();
            Tree condition = ((ParenthesizedTree) loop.getCondition()).getExpression();
            String counter = condition.toString().split(" ")[0];
            Due.isTrue("rule 9: a bound of " + counter, isBound(condition, counter));
            Due.isTrue("rule 9: " + counter + " moves",
                loop.getStatement().toString().matches("(?s)\\{\\s*" + counter + "\\+\\+;\\s*\\}"));
        }
    }

    /** A comparison of the counter, or several conditions one of which is such. */
    private static boolean isBound(Tree condition, String counter) {
        if (!(condition instanceof BinaryTree)) {
            return false;
        }
        BinaryTree both = (BinaryTree) condition;
        if (both.getKind() == Tree.Kind.CONDITIONAL_AND) {
            return isBound(both.getLeftOperand(), counter) || isBound(both.getRightOperand(), counter);
        }
        return both.getLeftOperand().toString().equals(counter)
            && both.toString().matches("\\w+ (<|<=|>|>=) .*");
    }

    /** Rule 1: no method but the public ones bears a public one's name, wherever it stands. */
    private static void names() {
        Set<String> open = new HashSet<>();
        forMethods(m -> m.getModifiers().contains(Modifier.PUBLIC)
            && open.add(m.getSimpleName().toString()));
        Due.due("public calls, and the constructor", open.size(), 36);
        forMethods(m -> {
            boolean other = !m.getModifiers().contains(Modifier.PUBLIC) && m.getKind() == ElementKind.METHOD;
            Due.isTrue("rule 1: a name of its own: " + m,
                !other || !open.contains(m.getSimpleName().toString()));
            return other;
        });
    }

    /** Rules 8 and 11: no recursion, and no more than eight calls open at once. */
    private static void depths() {
        int seen = forMethods(m -> {
            int depth = source.depthFrom(m, 2 * MOST_CALLS_DEEP);
            Due.isTrue("rule 11: calls open below " + m + ", with it: " + depth, depth <= MOST_CALLS_DEEP);
            return depth > 1;
        });
        Due.isTrue("methods that call others: " + seen, seen > 30);
    }

    /** How many methods and constructors this holds for. */
    private static int forMethods(Predicate<Element> each) {
        int held = 0;
        for (TreePath place : source.places()) {
            if (place.getLeaf() instanceof MethodTree) {
                held += each.test(source.elementAt(place)) ? 1 : 0;
            }
        }
        return held;
    }
}
