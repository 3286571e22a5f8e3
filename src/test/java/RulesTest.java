import com.sun.source.tree.*;
import com.sun.source.util.JavacTask;
import com.sun.source.util.TreePath;
import com.sun.source.util.TreePathScanner;
import com.sun.source.util.Trees;
import java.io.IOException;
import java.nio.file.Path;
import java.util.LinkedHashMap;
import java.util.LinkedHashSet;
import java.util.List;
import java.util.Map;
import java.util.Set;
import javax.lang.model.element.Element;
import javax.lang.model.element.ElementKind;
import javax.lang.model.element.Modifier;
import javax.lang.model.type.ArrayType;
import javax.lang.model.type.TypeKind;
import javax.lang.model.type.TypeMirror;
import javax.tools.JavaCompiler;
import javax.tools.StandardJavaFileManager;
import javax.tools.ToolProvider;

/** The rules of LANGUAGE.md, looked at in the tree that the compiler makes of the class. */
public final class RulesTest {
    private static final Check CHECK = new Check("RulesTest");
    private static final Set<String> LIBRARY = Set.of("java.lang.String.length", "java.lang.String.charAt",
        "java.lang.Math.max", "java.lang.Math.min", "java.lang.Integer.bitCount", "java.lang.System.arraycopy",
        "java.util.Arrays.fill", "java.lang.Object.Object");
    private static final Set<String> THROWN = Set.of("java.util.NoSuchElementException", "java.lang.IllegalArgumentException",
        "java.lang.ArithmeticException");
    private static final int MOST_DEEP = 8;

    private static Trees trees;
    private static final Map<Element, Set<Element>> CALLS = new LinkedHashMap<>();

    private static void no(String rule, boolean isBroken, Object where) {
        if (isBroken) {
            CHECK.same("rule " + rule, where.toString(), "nothing of that kind");
        } else {
            CHECK.due("rule " + rule, 0, 0);
        }
    }

    private static boolean isOwn(Element element) {
        return element.toString().startsWith("MapPieces") || element.getEnclosingElement() != null
            && element.getKind() != ElementKind.PACKAGE && isOwn(element.getEnclosingElement());
    }

    private static final class Looker extends TreePathScanner<Void, Void> {
        private Element method = null;

        private Element element(Tree tree) {
            return trees.getElement(new TreePath(getCurrentPath(), tree));
        }

        private TypeMirror type(Tree tree) {
            return trees.getTypeMirror(new TreePath(getCurrentPath(), tree));
        }

        @Override
        public Void visitMethod(MethodTree tree, Void nothing) {
            Element outer = method;
            method = trees.getElement(getCurrentPath());
            CALLS.putIfAbsent(method, new LinkedHashSet<>());
            no("11: a method of more than seven parameters", tree.getParameters().size() > 7, tree);
            no("6: equals, hashCode or toString", Set.of("equals", "hashCode", "toString").contains(tree.getName().toString()), tree);
            no("6: synchronized", tree.getModifiers().getFlags().contains(Modifier.SYNCHRONIZED), tree);
            if (tree.getReturnType() != null) {
                allowed(type(tree.getReturnType()), tree);
            }
            super.visitMethod(tree, nothing);
            method = outer;
            return null;
        }

        private void allowed(TypeMirror type, Tree where) {
            TypeMirror one = type;
            int dimensions = 0;
            while (one.getKind() == TypeKind.ARRAY) {
                one = ((ArrayType) one).getComponentType();
                dimensions++;
            }
            String name = one.toString();
            boolean isNumber = one.getKind().isPrimitive();
            boolean isFine = isNumber || one.getKind() == TypeKind.VOID || name.startsWith("MapPieces") || name.equals("java.lang.String");
            no("3: type " + type, !isFine || dimensions > (isNumber ? 2 : 1), where);
        }

        @Override
        public Void visitVariable(VariableTree tree, Void nothing) {
            allowed(type(tree.getType()), tree);
            Element variable = trees.getElement(getCurrentPath());
            if (variable.getModifiers().contains(Modifier.STATIC)) {
                no("5: a static field that is not final", !variable.getModifiers().contains(Modifier.FINAL), tree);
                boolean isWritten = tree.getInitializer() instanceof NewArrayTree;
                boolean isArray = variable.asType().getKind() == TypeKind.ARRAY;
                no("5: a static array that is not written out", isArray && !isWritten, tree);
            }
            return super.visitVariable(tree, nothing);
        }

        @Override
        public Void visitMethodInvocation(MethodInvocationTree tree, Void nothing) {
            Element called = element(tree.getMethodSelect());
            if (isOwn(called)) {
                CALLS.computeIfAbsent(method, m -> new LinkedHashSet<>()).add(called);
            } else {
                String name = called.getEnclosingElement() + "." + called.getSimpleName();
                no("4: " + name, !LIBRARY.contains(name) && !name.endsWith(".<init>"), tree);
            }
            return super.visitMethodInvocation(tree, nothing);
        }

        @Override
        public Void visitNewClass(NewClassTree tree, Void nothing) {
            Element made = trees.getElement(getCurrentPath());
            boolean isThrown = getCurrentPath().getParentPath().getLeaf() instanceof ThrowTree;
            no("4: new " + made, !isOwn(made) && !isThrown, tree);
            no("2: an anonymous class", tree.getClassBody() != null, tree);
            if (isOwn(made) && method != null) {
                CALLS.computeIfAbsent(method, m -> new LinkedHashSet<>()).add(made);
            }
            return super.visitNewClass(tree, nothing);
        }

        @Override
        public Void visitThrow(ThrowTree tree, Void nothing) {
            no("6: throw of something else", !(tree.getExpression() instanceof NewClassTree)
                || !THROWN.contains(type(tree.getExpression()).toString()), tree);
            no("6: throw in a constructor", method.getKind() == ElementKind.CONSTRUCTOR, tree);
            return super.visitThrow(tree, nothing);
        }

        @Override
        public Void visitMemberSelect(MemberSelectTree tree, Void nothing) {
            Element field = trees.getElement(getCurrentPath());
            boolean isField = field != null && field.getKind() == ElementKind.FIELD;
            no("4: a field of the library", isField && !isOwn(field) && !tree.getIdentifier().contentEquals("length"), tree);
            return super.visitMemberSelect(tree, nothing);
        }

        @Override
        public Void visitBinary(BinaryTree tree, Void nothing) {
            boolean isText = type(tree.getLeftOperand()).toString().equals("java.lang.String");
            no("6, 10: two texts joined or compared", isText, tree);
            boolean divides = tree.getKind() == Tree.Kind.DIVIDE || tree.getKind() == Tree.Kind.REMAINDER;
            boolean isWritten = tree.getRightOperand() instanceof LiteralTree;
            boolean isNamed = tree.getRightOperand() instanceof IdentifierTree id && id.getName().contentEquals("COLOURS");
            // a DRAW looks at its divisor in the same row
            boolean isLooked = getCurrentPath().getParentPath().getLeaf() instanceof ConditionalExpressionTree c
                && c.getCondition().toString().contains(tree.getRightOperand() + " > 0");
            no("7: a divisor that is not looked at", divides && !isWritten && !isNamed && !isLooked, tree);
            return super.visitBinary(tree, nothing);
        }

        @Override
        public Void visitTypeCast(TypeCastTree tree, Void nothing) {
            no("6: a cast of an object", !type(tree.getType()).getKind().isPrimitive(), tree);
            return super.visitTypeCast(tree, nothing);
        }

        @Override
        public Void visitForLoop(ForLoopTree tree, Void nothing) {
            no("9: a loop without an end", tree.getCondition() == null, tree);
            return super.visitForLoop(tree, nothing);
        }

        @Override
        public Void visitWhileLoop(WhileLoopTree tree, Void nothing) {
            no("9: a loop without an end", tree.getCondition().toString().contains("true"), tree);
            return super.visitWhileLoop(tree, nothing);
        }

        @Override
        public Void visitBlock(BlockTree tree, Void nothing) {
            no("5: an initialiser block", getCurrentPath().getParentPath().getLeaf() instanceof ClassTree, tree);
            return super.visitBlock(tree, nothing);
        }

        @Override
        public Void scan(Tree tree, Void nothing) {
            if (tree != null) {
                String kind = tree.getKind().toString();
                no("2, 6: " + kind, Set.of("LAMBDA_EXPRESSION", "MEMBER_REFERENCE", "TRY", "SYNCHRONIZED", "ASSERT",
                    "INSTANCE_OF", "ANNOTATION_TYPE", "YIELD", "SWITCH_EXPRESSION", "DO_WHILE_LOOP").contains(kind), tree);
            }
            return super.scan(tree, nothing);
        }
    }

    /** How deep calls go below a method, not counting those of a method that calls itself; itself the first. */
    private static int depth(Element method, Set<Element> open) {
        int most = 0;
        open.add(method);
        for (Element called : CALLS.getOrDefault(method, Set.of())) {
            boolean callsItself = called.equals(method);
            no("8: a recursion of several methods", !callsItself && open.contains(called), method + " calls " + called);
            no("8: a method that calls itself and is not private",
                callsItself && !method.getModifiers().contains(Modifier.PRIVATE), method);
            if (!open.contains(called)) {
                most = Math.max(most, depth(called, open));
            }
        }
        open.remove(method);
        return most + 1;
    }

    public static void main(String[] args) throws IOException {
        JavaCompiler compiler = ToolProvider.getSystemJavaCompiler();
        try (StandardJavaFileManager files = compiler.getStandardFileManager(null, null, null)) {
            JavacTask task = (JavacTask) compiler.getTask(null, files, null, List.of("-proc:none"), null,
                files.getJavaFileObjects(Path.of("src/main/java/MapPieces.java")));
            trees = Trees.instance(task);
            CompilationUnitTree unit = task.parse().iterator().next();
            task.analyze();
            new Looker().scan(unit, null);
        }
        CHECK.due("methods were found", CALLS.size() > 100 ? 1 : 0, 1);
        int deepest = 0;
        for (Element method : List.copyOf(CALLS.keySet())) {
            deepest = Math.max(deepest, depth(method, new LinkedHashSet<>()));
        }
        no("11: calls that go deeper than eight", deepest > MOST_DEEP, deepest);
        System.out.println("calls go " + deepest + " deep");
        CHECK.end();
    }
}
