import com.sun.source.tree.BinaryTree;
import com.sun.source.tree.ClassTree;
import com.sun.source.tree.DoWhileLoopTree;
import com.sun.source.tree.EnhancedForLoopTree;
import com.sun.source.tree.ForLoopTree;
import com.sun.source.tree.ImportTree;
import com.sun.source.tree.MethodInvocationTree;
import com.sun.source.tree.MethodTree;
import com.sun.source.tree.NewArrayTree;
import com.sun.source.tree.NewClassTree;
import com.sun.source.tree.Tree;
import com.sun.source.tree.TypeCastTree;
import com.sun.source.tree.VariableTree;
import com.sun.source.tree.WhileLoopTree;
import com.sun.source.util.TreePath;
import java.io.IOException;
import java.nio.file.Path;
import java.util.EnumSet;
import java.util.HashMap;
import java.util.Map;
import java.util.Set;
import java.util.TreeSet;
import javax.lang.model.element.Element;
import javax.lang.model.element.ElementKind;
import javax.lang.model.element.Modifier;
import javax.lang.model.element.VariableElement;

/** The rules of ../shared/LANGUAGE.md that the source shows; each answer names its rule. */
public final class RulesTest {
    private static final Path FILE = Path.of("src/main/java/ShapeEngine.java");
    private static final String MAIN = "ShapeEngine";
    private static final Set<String> FACE = Set.of("feed", "read", "fault", "run", "told", "paper", "printed", "object",
        "member", "worth", "letter", "row", "item", "shape", "site", "fn", "count");
    private static final Set<String> CONSTANTS = Set.of("NONE", "BAD", "STATE", "FULL");
    /** Of what rule 4 lists, as much as the class uses: whoever needs more of it adds it here. */
    private static final Set<String> LIBRARY = Set.of("java.lang.String.length", "java.lang.String.charAt",
        "java.lang.String.indexOf", "java.lang.Math.max", "java.lang.Math.min", "java.util.Arrays.copyOf",
        "java.util.Arrays.fill", "java.lang.Object.<init>");
    private static final Set<String> TYPES = Set.of("int", "long", "short", "byte", "char", "boolean", "int[]", "long[]",
        "short[]", "byte[]", "java.lang.String");
    private static final Set<Tree.Kind> NEVER = EnumSet.of(Tree.Kind.THROW, Tree.Kind.TRY, Tree.Kind.SYNCHRONIZED,
        Tree.Kind.ASSERT, Tree.Kind.LAMBDA_EXPRESSION, Tree.Kind.MEMBER_REFERENCE, Tree.Kind.PACKAGE, Tree.Kind.ENUM,
        Tree.Kind.INTERFACE, Tree.Kind.RECORD, Tree.Kind.ANNOTATION, Tree.Kind.SWITCH_EXPRESSION);

    private static Source source;
    private static final Map<String, Set<String>> CALLS = new HashMap<>();
    private static final Map<String, Integer> FIELDS = new HashMap<>();
    private static int publicOnes;

    public static void main(String[] args) throws IOException {
        source = new Source(FILE);
        source.each(RulesTest::look);
        // The class itself, its constructor, its methods and its constants.
        Check.due("rule 1: public members", publicOnes, 2 + FACE.size() + CONSTANTS.size());
        Check.due("rule 11: classes, twelve at most: " + FIELDS.size(), FIELDS.size() <= 12 ? 1 : 0, 1);
        for (String name : FIELDS.keySet()) {
            Check.due("rule 11: fields of " + name + ", twenty at most: " + FIELDS.get(name), FIELDS.get(name) <= 20 ? 1 : 0, 1);
        }
        Depths depths = new Depths(CALLS);
        for (String name : FACE) {
            String deepest = depths.deepest(MAIN + "." + name);
            Check.due("rule 11: calls in one another, eight at most: " + deepest, deepest.split(" > ").length <= 8 ? 1 : 0, 1);
        }
        Check.due("methods were found", CALLS.size() > 100 ? 1 : 0, 1);
        Check.end();
    }

    private static void look(TreePath path) {
        Tree tree = path.getLeaf();
        if (NEVER.contains(tree.getKind())) rule("6: no " + tree.getKind(), tree, false);
        if (tree instanceof ImportTree i) rule("4: import", i, i.toString().trim().equals("import java.util.Arrays;"));
        if (tree instanceof ClassTree) aClass(path);
        if (tree instanceof MethodTree) aMethod(path);
        if (tree instanceof VariableTree) aVariable(path);
        if (tree instanceof MethodInvocationTree || tree instanceof NewClassTree) aCall(path);
        if (tree instanceof NewArrayTree) rule("12: no array is made in a loop", tree, !isInLoop(path));
        if (tree instanceof BinaryTree b) anOperation(path, b);
        if (tree instanceof TypeCastTree) rule("6: casts of numbers alone", tree, source.type(path).getKind().isPrimitive());
        if (tree instanceof ForLoopTree f) rule("9: a loop with a bound: " + f.getCondition(), tree, hasBound(f));
        if (tree instanceof WhileLoopTree || tree instanceof DoWhileLoopTree) rule("9: loops that count", tree, false);
    }

    private static void rule(String words, Tree tree, boolean holds) {
        Check.due("rule " + words + " (line " + source.line(tree) + ")", holds ? 1 : 0, 1);
    }

    private static boolean hasBound(ForLoopTree loop) {
        return loop.getCondition() != null && loop.getCondition().toString().contains("<") && loop.getUpdate().size() == 1;
    }

    private static void aClass(TreePath path) {
        Element e = source.element(path);
        Tree tree = path.getLeaf();
        String name = e.getSimpleName().toString();
        FIELDS.put(name, 0);
        boolean main = name.equals(MAIN);
        rule("1: a final class " + name, tree, has(e, Modifier.FINAL));
        if (main) {
            rule("1: a public class", tree, has(e, Modifier.PUBLIC));
            publicOnes++;
        } else {
            rule("2: a static class in the one class: " + name, tree, has(e, Modifier.STATIC)
                && e.getEnclosingElement().getSimpleName().contentEquals(MAIN) && !isOpen(e));
        }
    }

    private static boolean has(Element e, Modifier modifier) {
        return e.getModifiers().contains(modifier);
    }

    private static boolean isOpen(Element e) {
        return has(e, Modifier.PUBLIC) || has(e, Modifier.PROTECTED);
    }

    private static boolean isOfMain(Element e) {
        return e.getEnclosingElement().getSimpleName().contentEquals(MAIN);
    }

    private static void aMethod(TreePath path) {
        MethodTree tree = (MethodTree) path.getLeaf();
        Element e = source.element(path);
        String name = e.getSimpleName().toString();
        CALLS.putIfAbsent(named(e), new TreeSet<>());
        rule("11: seven parameters at most: " + name, tree, tree.getParameters().size() <= 7);
        if (source.isUnwritten(tree)) return;
        rule("11: sixty lines at most: " + name, tree, source.lines(tree) <= 60);
        boolean made = e.getKind() == ElementKind.CONSTRUCTOR;
        boolean ofFace = isOfMain(e) && (made || FACE.contains(name));
        if (isOpen(e)) publicOnes++;
        rule("1: public is the face alone: " + name, tree, isOpen(e) == ofFace);
        if (isOfMain(e) && !ofFace) rule("1: private: " + name, tree, has(e, Modifier.PRIVATE));
        rule("1: no other method bears the name of a public one: " + name, tree, ofFace || made || !FACE.contains(name));
        rule("6: no equals, hashCode or toString: " + name, tree, !Set.of("equals", "hashCode", "toString").contains(name));
    }

    private static void aVariable(TreePath path) {
        Element e = source.element(path);
        Tree tree = path.getLeaf();
        String type = e.asType().toString();
        rule("3: a type " + type, tree, TYPES.contains(type) || type.startsWith(MAIN + "."));
        if (e.getKind() != ElementKind.FIELD) return;
        boolean constant = has(e, Modifier.STATIC);
        if (constant) rule("5: a final constant: " + e, tree, ((VariableElement) e).getConstantValue() != null);
        else FIELDS.merge(e.getEnclosingElement().getSimpleName().toString(), 1, Integer::sum);
        boolean ofFace = isOfMain(e) && CONSTANTS.contains(e.getSimpleName().toString());
        if (isOpen(e)) publicOnes++;
        rule("1: public is the face alone: " + e, tree, isOpen(e) == ofFace);
        if (isOfMain(e) && !ofFace) rule("1: private: " + e, tree, has(e, Modifier.PRIVATE));
    }

    private static void aCall(TreePath path) {
        Element called = source.element(path);
        Tree tree = path.getLeaf();
        String name = named(called);
        boolean own = called.getEnclosingElement().toString().startsWith(MAIN);
        if (tree instanceof NewClassTree) rule("12: no object is made in a loop", tree, own && !isInLoop(path));
        if (!own) {
            String library = called.getEnclosingElement() + "." + called.getSimpleName();
            rule("4: of the library: " + library, tree, LIBRARY.contains(library));
            return;
        }
        TreePath method = Source.around(path, MethodTree.class);
        String from = method == null ? name : named(source.element(method));
        CALLS.computeIfAbsent(from, n -> new TreeSet<>()).add(name);
    }

    private static boolean isInLoop(TreePath path) {
        return Source.around(path, ForLoopTree.class) != null || Source.around(path, EnhancedForLoopTree.class) != null;
    }

    private static String named(Element method) {
        return method.getEnclosingElement().getSimpleName() + "." + method.getSimpleName();
    }

    private static void anOperation(TreePath path, BinaryTree tree) {
        Tree.Kind kind = tree.getKind();
        TreePath right = new TreePath(path, tree.getRightOperand());
        if (kind == Tree.Kind.DIVIDE || kind == Tree.Kind.REMAINDER) {
            boolean constant = source.element(right) instanceof VariableElement v && v.getConstantValue() != null;
            rule("7: a divisor that is no 0", tree, constant || tree.getRightOperand().toString().matches("[1-9]\\d*"));
        }
        boolean asksSame = kind == Tree.Kind.EQUAL_TO || kind == Tree.Kind.NOT_EQUAL_TO;
        if (asksSame) rule("6: == of numbers alone", tree, source.type(right).getKind().isPrimitive());
        if (kind == Tree.Kind.PLUS) rule("10: + of numbers alone", tree, source.type(path).getKind().isPrimitive());
    }
}
