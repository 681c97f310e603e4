import com.sun.source.tree.AssertTree;
import com.sun.source.tree.BinaryTree;
import com.sun.source.tree.BlockTree;
import com.sun.source.tree.CaseTree;
import com.sun.source.tree.ClassTree;
import com.sun.source.tree.DoWhileLoopTree;
import com.sun.source.tree.EnhancedForLoopTree;
import com.sun.source.tree.ExpressionTree;
import com.sun.source.tree.ForLoopTree;
import com.sun.source.tree.ImportTree;
import com.sun.source.tree.LambdaExpressionTree;
import com.sun.source.tree.LiteralTree;
import com.sun.source.tree.MemberReferenceTree;
import com.sun.source.tree.MethodInvocationTree;
import com.sun.source.tree.MethodTree;
import com.sun.source.tree.NewArrayTree;
import com.sun.source.tree.NewClassTree;
import com.sun.source.tree.PackageTree;
import com.sun.source.tree.ParenthesizedTree;
import com.sun.source.tree.SynchronizedTree;
import com.sun.source.tree.ThrowTree;
import com.sun.source.tree.Tree;
import com.sun.source.tree.TryTree;
import com.sun.source.tree.VariableTree;
import com.sun.source.tree.WhileLoopTree;
import com.sun.source.util.TreePath;
import java.io.IOException;
import java.nio.file.Path;
import java.util.ArrayList;
import java.util.HashMap;
import java.util.LinkedHashSet;
import java.util.List;
import java.util.Map;
import java.util.Set;
import javax.lang.model.element.Element;
import javax.lang.model.element.ElementKind;
import javax.lang.model.element.Modifier;
import javax.lang.model.element.VariableElement;
import javax.lang.model.type.ArrayType;
import javax.lang.model.type.TypeKind;
import javax.lang.model.type.TypeMirror;

/**
 * The rules of LANGUAGE.md that can be seen in the file, by their numbers, in the narrower form
 * that the class keeps to: it uses no library at all and makes nothing once it stands. (FaceTest
 * looks at the face of rule 1; that no call throws by itself, rule 7, is seen by runs alone.)
 */
public final class LanguageTest {
    private static final Path FILE = Path.of("src/main/java/LearnedCodes.java");

    private static final Set<String> THROWN = Set.of("IllegalStateException",
            "IllegalArgumentException", "IndexOutOfBoundsException", "ArithmeticException",
            "UnsupportedOperationException", "NoSuchElementException", "RuntimeException");

    private static final int MOST_CLASSES = 12;
    private static final int MOST_FIELDS = 20;
    private static final int MOST_PARAMETERS = 7;
    private static final int MOST_LINES = 60;
    private static final int DEEPEST_CALL = 8;

    private final Source source;

    private LanguageTest(Source source) {
        this.source = source;
    }

    /** Another file than the class's own one may be named, to see that a rule is looked at. */
    public static void main(String[] args) throws IOException {
        LanguageTest test = new LanguageTest(new Source(args.length == 0 ? FILE : Path.of(args[0])));
        test.rule1();
        test.rule2();
        test.rule3();
        test.rule4();
        test.rule5();
        test.rule6();
        test.rules8And11();
        test.rule9();
        test.rule10();
        test.rule11();
        test.rule12();
        Check.end();
    }

    private void none(String what, Class<? extends Tree> kind) {
        for (TreePath path : source.all(kind)) {
            Check.due(what + " in " + source.where(path), "there", "not there");
        }
    }

    private void due(String what, TreePath path, boolean holds) {
        Check.due(what + ", " + source.where(path) + ": " + path.getLeaf(), holds, true);
    }

    private boolean isInside(Element element) {
        Element at = element;
        while (at != null && at.getKind() != ElementKind.PACKAGE) {
            if (at.getSimpleName().contentEquals("LearnedCodes")) {
                return true;
            }
            at = at.getEnclosingElement();
        }
        return false;
    }

    private void rule1() {
        none("rule 1: a package line", PackageTree.class);
        Check.due("rule 1: classes in the file", source.unit.getTypeDecls().size(), 1);
        Set<String> face = new LinkedHashSet<>();
        for (TreePath path : source.all(MethodTree.class)) {
            if (isPublic(path)) {
                face.add(((MethodTree) path.getLeaf()).getName().toString());
            }
        }
        for (TreePath path : source.all(MethodTree.class)) {
            String name = ((MethodTree) path.getLeaf()).getName().toString();
            boolean isConstructor = name.equals("<init>");
            due("rule 1: a name of the face", path,
                    isPublic(path) || isConstructor || !face.contains(name));
        }
    }

    private boolean isPublic(TreePath path) {
        return source.element(path).getModifiers().contains(Modifier.PUBLIC);
    }

    private void rule2() {
        none("rule 2: a lambda", LambdaExpressionTree.class);
        none("rule 2: a method reference", MemberReferenceTree.class);
        for (TreePath path : source.all(ClassTree.class)) {
            due("rule 2: a class in a method", path,
                    Source.round(path, MethodTree.class) == null);
            due("rule 2: a class that is not static and not the outermost", path,
                    Source.round(path, ClassTree.class) == null
                            || source.element(path).getModifiers().contains(Modifier.STATIC));
        }
    }

    private void rule3() {
        for (TreePath path : source.all(VariableTree.class)) {
            due("rule 3: type of a variable", path, isAllowed(source.element(path).asType()));
        }
        for (TreePath path : source.all(ExpressionTree.class)) {
            TypeMirror type = source.type(path);
            due("rule 3: a double or float", path, type == null
                    || type.getKind() != TypeKind.DOUBLE && type.getKind() != TypeKind.FLOAT);
        }
    }

    /** Numbers, truth values and classes inside; rows of these, and rows of rows of numbers. */
    private boolean isAllowed(TypeMirror type) {
        if (type.getKind() != TypeKind.ARRAY) {
            return type.getKind().isPrimitive() || isOwn(type);
        }
        TypeMirror part = ((ArrayType) type).getComponentType();
        if (part.getKind() != TypeKind.ARRAY) {
            return part.getKind().isPrimitive() || isOwn(part);
        }
        TypeKind innermost = ((ArrayType) part).getComponentType().getKind();
        return innermost.isPrimitive() && innermost != TypeKind.BOOLEAN;
    }

    private static boolean isOwn(TypeMirror type) {
        return type.getKind() == TypeKind.DECLARED && type.toString().startsWith("LearnedCodes.");
    }

    private void rule4() {
        none("rule 4: an import", ImportTree.class);
        for (TreePath path : source.all(MethodInvocationTree.class)) {
            boolean isSuper = path.getLeaf().toString().equals("super()");
            due("rule 4: a call of the library", path,
                    isSuper || isInside(source.element(path)));
        }
        for (TreePath path : source.all(NewClassTree.class)) {
            due("rule 4: an object of the library", path,
                    path.getParentPath().getLeaf() instanceof ThrowTree
                            || isInside(source.element(path)));
        }
    }

    private void rule5() {
        for (TreePath path : source.all(VariableTree.class)) {
            Element element = source.element(path);
            if (element.getModifiers().contains(Modifier.STATIC)) {
                due("rule 5: a static field that is no constant", path,
                        element.getModifiers().contains(Modifier.FINAL)
                                && ((VariableElement) element).getConstantValue() != null);
            }
        }
        for (TreePath path : source.all(BlockTree.class)) {
            due("rule 5: a block of the class", path,
                    !(path.getParentPath().getLeaf() instanceof ClassTree));
        }
    }

    private void rule6() {
        none("rule 6: try", TryTree.class);
        none("rule 6: synchronized", SynchronizedTree.class);
        none("rule 6: assert", AssertTree.class);
        for (TreePath path : source.all(ThrowTree.class)) {
            due("rule 6: a throw", path, isAllowed((ThrowTree) path.getLeaf()));
            MethodTree method = (MethodTree) Source.round(path, MethodTree.class).getLeaf();
            due("rule 6: a throw in a constructor", path,
                    !method.getName().contentEquals("<init>"));
        }
        for (TreePath path : source.all(CaseTree.class)) {
            due("rule 6: a switch with arrows", path,
                    ((CaseTree) path.getLeaf()).getCaseKind() == CaseTree.CaseKind.STATEMENT);
        }
        for (TreePath path : source.all(BinaryTree.class)) {
            Tree.Kind kind = path.getLeaf().getKind();
            ExpressionTree left = ((BinaryTree) path.getLeaf()).getLeftOperand();
            boolean compares = kind == Tree.Kind.EQUAL_TO || kind == Tree.Kind.NOT_EQUAL_TO;
            due("rule 6: == of objects", path, !compares
                    || source.type(new TreePath(path, left)).getKind().isPrimitive());
        }
    }

    private static boolean isAllowed(ThrowTree thrown) {
        if (!(thrown.getExpression() instanceof NewClassTree)) {
            return false;
        }
        NewClassTree made = (NewClassTree) thrown.getExpression();
        boolean isWritten = made.getArguments().isEmpty()
                || made.getArguments().size() == 1
                && made.getArguments().get(0).getKind() == Tree.Kind.STRING_LITERAL;
        return isWritten && THROWN.contains(made.getIdentifier().toString());
    }

    private void rules8And11() {
        Map<Element, Set<Element>> calls = new HashMap<>();
        for (TreePath path : source.all(MethodTree.class)) {
            calls.put(source.element(path), new LinkedHashSet<>());
        }
        for (Class<? extends Tree> kind : List.of(MethodInvocationTree.class, NewClassTree.class)) {
            for (TreePath path : source.all(kind)) {
                TreePath method = Source.round(path, MethodTree.class);
                if (method != null && calls.containsKey(source.element(path))) {
                    calls.get(source.element(method)).add(source.element(path));
                }
            }
        }
        for (Element method : calls.keySet()) {
            List<Element> open = new ArrayList<>();
            open.add(method);
            Check.due("rules 8 and 11: calls from " + method + " go at most eight deep, and none "
                    + "comes back", depth(open, calls) <= DEEPEST_CALL, true);
        }
    }

    /** How many calls are open at once, the first one among them; too many if one comes back. */
    private static int depth(List<Element> open, Map<Element, Set<Element>> calls) {
        int deepest = open.size();
        for (Element next : calls.get(open.get(open.size() - 1))) {
            if (open.contains(next)) {
                return DEEPEST_CALL + 1;
            }
            open.add(next);
            deepest = Math.max(deepest, depth(open, calls));
            open.remove(open.size() - 1);
        }
        return deepest;
    }

    private void rule9() {
        for (TreePath path : source.all(ForLoopTree.class)) {
            isBounded(path, ((ForLoopTree) path.getLeaf()).getCondition());
        }
        for (TreePath path : source.all(WhileLoopTree.class)) {
            isBounded(path, ((WhileLoopTree) path.getLeaf()).getCondition());
        }
        for (TreePath path : source.all(DoWhileLoopTree.class)) {
            isBounded(path, ((DoWhileLoopTree) path.getLeaf()).getCondition());
        }
    }

    /** A number is compared in the loop's own lines, and nothing but && is round that. */
    private void isBounded(TreePath path, ExpressionTree condition) {
        due("rule 9: a loop", path, condition != null && compares(condition));
    }

    private static boolean compares(ExpressionTree condition) {
        switch (condition.getKind()) {
            case PARENTHESIZED:
                return compares(((ParenthesizedTree) condition).getExpression());
            case CONDITIONAL_AND:
                return compares(((BinaryTree) condition).getLeftOperand())
                        || compares(((BinaryTree) condition).getRightOperand());
            case LESS_THAN:
            case LESS_THAN_EQUAL:
            case GREATER_THAN:
            case GREATER_THAN_EQUAL:
                return true;
            default:
                return false;
        }
    }

    private void rule10() {
        for (TreePath path : source.all(LiteralTree.class)) {
            due("rule 10: a text that is not thrown", path,
                    path.getLeaf().getKind() != Tree.Kind.STRING_LITERAL
                            || Source.round(path, ThrowTree.class) != null);
        }
    }

    private void rule11() {
        Check.due("rule 11: classes are few", source.all(ClassTree.class).size() <= MOST_CLASSES,
                true);
        for (TreePath path : source.all(MethodTree.class)) {
            MethodTree method = (MethodTree) path.getLeaf();
            due("rule 11: parameters", path, method.getParameters().size() <= MOST_PARAMETERS);
            due("rule 11: lines", path, source.lines(path) <= MOST_LINES);
        }
        for (TreePath path : source.all(ClassTree.class)) {
            int fields = 0;
            for (Tree member : ((ClassTree) path.getLeaf()).getMembers()) {
                boolean isField = member instanceof VariableTree
                        && !((VariableTree) member).getModifiers().getFlags()
                                .contains(Modifier.STATIC);
                fields += isField ? 1 : 0;
            }
            Check.due("rule 11: fields are few, " + source.where(path), fields <= MOST_FIELDS,
                    true);
        }
    }

    private void rule12() {
        none("rule 12: a loop over a list", EnhancedForLoopTree.class);
        for (TreePath path : source.all(NewArrayTree.class)) {
            due("rule 12: a row that is made when all stands", path, isOfMaking(path));
        }
        for (TreePath path : source.all(NewClassTree.class)) {
            due("rule 12: an object that is made when all stands", path,
                    path.getParentPath().getLeaf() instanceof ThrowTree || isOfMaking(path));
        }
    }

    /** In a constructor or a field, and in no loop. */
    private static boolean isOfMaking(TreePath path) {
        TreePath method = Source.round(path, MethodTree.class);
        boolean isRight = method == null
                || ((MethodTree) method.getLeaf()).getName().contentEquals("<init>");
        return isRight && Source.round(path, ForLoopTree.class) == null
                && Source.round(path, WhileLoopTree.class) == null;
    }
}
