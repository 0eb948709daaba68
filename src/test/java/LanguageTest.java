import com.sun.source.tree.*;
import com.sun.source.util.JavacTask;
import com.sun.source.util.TreePath;
import com.sun.source.util.TreePathScanner;
import com.sun.source.util.Trees;
import java.io.IOException;
import java.nio.file.Path;
import java.util.ArrayList;
import java.util.EnumSet;
import java.util.HashMap;
import java.util.LinkedHashMap;
import java.util.LinkedHashSet;
import java.util.List;
import java.util.Map;
import java.util.Set;
import javax.lang.model.element.Element;
import javax.lang.model.element.ElementKind;
import javax.lang.model.element.Modifier;
import javax.lang.model.element.VariableElement;
import javax.lang.model.type.ArrayType;
import javax.lang.model.type.DeclaredType;
import javax.lang.model.type.TypeKind;
import javax.lang.model.type.TypeMirror;
import javax.tools.JavaCompiler;
import javax.tools.StandardJavaFileManager;
import javax.tools.ToolProvider;

/**
 * The file keeps to LANGUAGE.md, as the compiler's own tree of it shows. It is stricter than the rules
 * where the class needs less than they leave: only counted for-loops, no try, and nothing made in a call.
 */
public final class LanguageTest {
    private static final Path SOURCE = Path.of("src/main/java/GatePatch.java");

    /** Rule 4, as far as the class goes. */
    private static final Set<String> LIBRARY = Set.of(
        "java.lang.Math.min(int,int)", "java.lang.Math.max(int,int)", "java.lang.Math.abs(int)",
        "java.lang.Integer.bitCount(int)", "java.lang.Long.bitCount(long)",
        "java.lang.System.arraycopy(java.lang.Object,int,java.lang.Object,int,int)",
        "java.util.Arrays.fill(int[],int)", "java.util.Arrays.fill(long[],long)");

    /** Rule 6: which calls of the face throw, and what. */
    private static final Map<String, Set<String>> THROWERS = Map.of(
        "GatePatch.row", Set.of("IllegalArgumentException"),
        "GatePatch.at", Set.of("IllegalArgumentException", "IllegalStateException"));

    /** Rule 10, and what the rules ahead of it leave. What stands nowhere here is a fault. */
    private static final Set<Tree.Kind> KINDS = EnumSet.of(
        Tree.Kind.COMPILATION_UNIT, Tree.Kind.IMPORT, Tree.Kind.CLASS, Tree.Kind.METHOD, Tree.Kind.VARIABLE,
        Tree.Kind.MODIFIERS, Tree.Kind.BLOCK, Tree.Kind.IF, Tree.Kind.FOR_LOOP, Tree.Kind.SWITCH, Tree.Kind.CASE,
        Tree.Kind.BREAK, Tree.Kind.CONTINUE, Tree.Kind.RETURN, Tree.Kind.THROW, Tree.Kind.EXPRESSION_STATEMENT,
        Tree.Kind.CONDITIONAL_EXPRESSION, Tree.Kind.PARENTHESIZED, Tree.Kind.TYPE_CAST, Tree.Kind.ARRAY_ACCESS,
        Tree.Kind.NEW_ARRAY, Tree.Kind.NEW_CLASS, Tree.Kind.METHOD_INVOCATION, Tree.Kind.MEMBER_SELECT,
        Tree.Kind.IDENTIFIER, Tree.Kind.PRIMITIVE_TYPE, Tree.Kind.ARRAY_TYPE, Tree.Kind.INT_LITERAL,
        Tree.Kind.LONG_LITERAL, Tree.Kind.BOOLEAN_LITERAL, Tree.Kind.STRING_LITERAL, Tree.Kind.NULL_LITERAL,
        Tree.Kind.ASSIGNMENT, Tree.Kind.PLUS_ASSIGNMENT, Tree.Kind.MINUS_ASSIGNMENT, Tree.Kind.AND_ASSIGNMENT,
        Tree.Kind.OR_ASSIGNMENT, Tree.Kind.XOR_ASSIGNMENT, Tree.Kind.POSTFIX_INCREMENT, Tree.Kind.POSTFIX_DECREMENT,
        Tree.Kind.PLUS, Tree.Kind.MINUS, Tree.Kind.MULTIPLY, Tree.Kind.DIVIDE, Tree.Kind.REMAINDER,
        Tree.Kind.UNARY_MINUS, Tree.Kind.BITWISE_COMPLEMENT, Tree.Kind.LOGICAL_COMPLEMENT, Tree.Kind.AND,
        Tree.Kind.OR, Tree.Kind.XOR, Tree.Kind.LEFT_SHIFT, Tree.Kind.RIGHT_SHIFT, Tree.Kind.CONDITIONAL_AND,
        Tree.Kind.CONDITIONAL_OR, Tree.Kind.EQUAL_TO, Tree.Kind.NOT_EQUAL_TO, Tree.Kind.LESS_THAN,
        Tree.Kind.LESS_THAN_EQUAL, Tree.Kind.GREATER_THAN, Tree.Kind.GREATER_THAN_EQUAL);

    /** Rule 11. */
    private static final int MOST_LINES = 60, MOST_PARAMETERS = 7, MOST_DEPTH = 8, MOST_CLASSES = 12, MOST_FIELDS = 20;

    private static int wrong;

    public static void main(String[] args) throws IOException {
        JavaCompiler compiler = ToolProvider.getSystemJavaCompiler();
        StandardJavaFileManager files = compiler.getStandardFileManager(null, null, null);
        JavacTask task = (JavacTask) compiler.getTask(null, files, null, List.of("-proc:none"), null,
            files.getJavaFileObjects(SOURCE));
        CompilationUnitTree unit = task.parse().iterator().next();
        task.analyze();
        Reader reader = new Reader(Trees.instance(task), unit);
        reader.scan(unit, null);
        reader.calls.check();
        System.out.println(wrong == 0 ? reader.seen + " parts of the file are as LANGUAGE.md wants" : wrong + " faults");
        if (wrong != 0) System.exit(1);
    }

    private static void fault(String text) {
        wrong++;
        System.out.println(text);
    }

    /** Walks over the tree and looks at each part of it. */
    private static final class Reader extends TreePathScanner<Void, Void> {
        private final Trees trees;
        private final CompilationUnitTree unit;
        private final Set<String> faceNames = new LinkedHashSet<>();
        private int classes;
        final Calls calls = new Calls();
        int seen;

        Reader(Trees someTrees, CompilationUnitTree aUnit) {
            trees = someTrees;
            unit = aUnit;
        }

        private long line(Tree tree) {
            return unit.getLineMap().getLineNumber(trees.getSourcePositions().getStartPosition(unit, tree));
        }

        private long lastLine(Tree tree) {
            return unit.getLineMap().getLineNumber(trees.getSourcePositions().getEndPosition(unit, tree));
        }

        private void bad(Tree tree, String text) { fault("line " + line(tree) + ": " + text); }

        private Element element(Tree tree) { return trees.getElement(new TreePath(getCurrentPath(), tree)); }

        private TypeMirror type(Tree tree) { return trees.getTypeMirror(new TreePath(getCurrentPath(), tree)); }

        @Override
        public Void scan(Tree tree, Void v) {
            if (tree != null) {
                seen++;
                if (!KINDS.contains(tree.getKind())) bad(tree, tree.getKind() + " is none of the parts the file is made of");
            }
            return super.scan(tree, v);
        }

        @Override
        public Void visitImport(ImportTree tree, Void v) {
            if (!tree.getQualifiedIdentifier().toString().equals("java.util.Arrays")) bad(tree, "rule 4: " + tree);
            return null;
        }

        // ---- rules 1, 2, 5 and 11: classes and fields ----

        @Override
        public Void visitClass(ClassTree tree, Void v) {
            classes++;
            if (classes > MOST_CLASSES) bad(tree, "rule 11: more than " + MOST_CLASSES + " classes");
            Set<Modifier> flags = tree.getModifiers().getFlags();
            Set<Modifier> due = classes == 1 ? EnumSet.of(Modifier.PUBLIC, Modifier.FINAL)
                : EnumSet.of(Modifier.PRIVATE, Modifier.STATIC, Modifier.FINAL);
            if (!flags.equals(due)) bad(tree, "rules 1 and 2: " + tree.getSimpleName() + " is " + flags);
            if (tree.getExtendsClause() != null || !tree.getImplementsClause().isEmpty()) bad(tree, "it has a class above it");
            if (!tree.getTypeParameters().isEmpty()) bad(tree, "it is generic");
            int fields = 0;
            for (Tree member : tree.getMembers()) {
                if (member instanceof VariableTree) fields += field((VariableTree) member);
                if (member instanceof MethodTree) method((MethodTree) member);
                if (member instanceof BlockTree) bad(member, "rule 5: an initialiser block");
            }
            if (fields > MOST_FIELDS) bad(tree, "rule 11: " + fields + " fields");
            return super.visitClass(tree, v);
        }

        /** 1 for a field of objects, 0 for a constant. */
        private int field(VariableTree tree) {
            Set<Modifier> flags = tree.getModifiers().getFlags();
            boolean isStatic = flags.contains(Modifier.STATIC);
            if (classes == 1 && !isStatic && !flags.contains(Modifier.PRIVATE)) bad(tree, "rule 1: " + tree.getName());
            if (!isStatic) return 1;
            if (!flags.contains(Modifier.FINAL)) bad(tree, "rule 5: " + tree.getName() + " isn't final");
            String kind = String.valueOf(tree.getType());
            boolean isRow = Set.of("int[]", "long[]", "byte[]", "char[]").contains(kind);
            boolean isWritten = tree.getInitializer() instanceof NewArrayTree
                && ((NewArrayTree) tree.getInitializer()).getInitializers() != null;
            if (isRow ? !isWritten : !Set.of("int", "long", "boolean", "char", "String").contains(kind)) {
                bad(tree, "rule 5: " + tree.getName() + " is " + kind);
            }
            return 0;
        }

        private void method(MethodTree tree) {
            Set<Modifier> flags = tree.getModifiers().getFlags();
            String name = tree.getName().toString();
            if (name.equals("<init>")) return;
            boolean isFace = classes == 1 && flags.contains(Modifier.PUBLIC);
            if (isFace) faceNames.add(name);
            if (!isFace && faceNames.contains(name)) bad(tree, "rule 1: " + name + " is a name of the face");
            if (classes == 1 && !isFace && !flags.contains(Modifier.PRIVATE)) bad(tree, "rule 1: " + name);
            if (classes > 1 && flags.contains(Modifier.PUBLIC)) bad(tree, "rule 1: " + name);
            if (tree.getParameters().size() > MOST_PARAMETERS) bad(tree, "rule 11: the parameters of " + name);
            if (lastLine(tree) - line(tree) >= MOST_LINES) bad(tree, "rule 11: the lines of " + name);
        }

        // ---- rule 3: types ----

        private boolean isOwn(TypeMirror type) {
            if (type.getKind() != TypeKind.DECLARED) return false;
            Element at = ((DeclaredType) type).asElement();
            while (at.getEnclosingElement().getKind().isClass()) at = at.getEnclosingElement();
            return at.getSimpleName().contentEquals("GatePatch");
        }

        private static boolean isNumber(TypeMirror type) {
            return type.getKind().isPrimitive() && type.getKind() != TypeKind.DOUBLE && type.getKind() != TypeKind.FLOAT;
        }

        private boolean isFine(TypeMirror type) {
            if (type.getKind() == TypeKind.ARRAY) {
                TypeMirror of = ((ArrayType) type).getComponentType();
                return isNumber(of) || isOwn(of);
            }
            return isNumber(type) || isOwn(type);
        }

        @Override
        public Void visitVariable(VariableTree tree, Void v) {
            if (!isFine(type(tree))) bad(tree, "rule 3: " + tree);
            return super.visitVariable(tree, v);
        }

        @Override
        public Void visitMethod(MethodTree tree, Void v) {
            Tree answer = tree.getReturnType();
            if (answer != null && type(answer).getKind() != TypeKind.VOID && !isFine(type(answer))) bad(tree, "rule 3: " + answer);
            Element method = trees.getElement(getCurrentPath());
            calls.name(nameOf(method));
            if (method.getKind() == ElementKind.CONSTRUCTOR || isFace(method)) calls.open(nameOf(method));
            return super.visitMethod(tree, v);
        }

        @Override
        public Void visitTypeCast(TypeCastTree tree, Void v) {
            if (!isNumber(type(tree.getType())) || !isNumber(type(tree.getExpression()))) bad(tree, "rule 6: " + tree);
            return super.visitTypeCast(tree, v);
        }

        @Override
        public Void visitBinary(BinaryTree tree, Void v) {
            TypeMirror left = type(tree.getLeftOperand()), right = type(tree.getRightOperand());
            boolean sameness = tree.getKind() == Tree.Kind.EQUAL_TO || tree.getKind() == Tree.Kind.NOT_EQUAL_TO;
            boolean numbers = isNumber(left) && isNumber(right);
            boolean objects = isOwn(left) && (isOwn(right) || right.getKind() == TypeKind.NULL);
            if (!numbers && !(sameness && objects)) bad(tree, "rules 6 and 10: " + tree);
            if (tree.getKind() == Tree.Kind.DIVIDE || tree.getKind() == Tree.Kind.REMAINDER) divisor(tree);
            return super.visitBinary(tree, v);
        }

        /** Rule 7: what divides is a constant that isn't 0. */
        private void divisor(BinaryTree tree) {
            Element by = element(tree.getRightOperand());
            Object value = by instanceof VariableElement ? ((VariableElement) by).getConstantValue() : null;
            if (!(value instanceof Integer) || (Integer) value <= 0) bad(tree, "rule 7: " + tree);
        }

        // ---- rule 4: the library; rules 8 and 11: who calls whom ----

        private Element enclosingMethod() {
            for (TreePath at = getCurrentPath(); at != null; at = at.getParentPath()) {
                if (at.getLeaf() instanceof MethodTree) return trees.getElement(at);
            }
            return null;
        }

        private static boolean isFace(Element method) {
            return method.getKind() == ElementKind.METHOD && method.getModifiers().contains(Modifier.PUBLIC);
        }

        private static String nameOf(Element method) { return method.getEnclosingElement() + "." + method; }

        @Override
        public Void visitMethodInvocation(MethodInvocationTree tree, Void v) {
            Element called = element(tree.getMethodSelect());
            if (isOwn(called.getEnclosingElement().asType())) {
                if (enclosingMethod() != null && called.getKind() == ElementKind.METHOD) {
                    calls.add(nameOf(enclosingMethod()), nameOf(called));
                }
                if (isFace(called)) bad(tree, "a call of the face from within: " + tree);
            } else if (called.getKind() != ElementKind.CONSTRUCTOR && !LIBRARY.contains(nameOf(called))) {
                bad(tree, "rule 4: " + nameOf(called));
            }
            return super.visitMethodInvocation(tree, v);
        }

        // ---- rules 5 and 12: what is made, and what is never changed ----

        @Override
        public Void visitNewClass(NewClassTree tree, Void v) {
            if (tree.getClassBody() != null) bad(tree, "an anonymous class");
            boolean isThrown = getCurrentPath().getParentPath().getLeaf() instanceof ThrowTree;
            if (!isThrown) made(tree);
            if (!isThrown && !isOwn(type(tree))) bad(tree, "rule 4: " + tree);
            return super.visitNewClass(tree, v);
        }

        @Override
        public Void visitNewArray(NewArrayTree tree, Void v) {
            made(tree);
            return super.visitNewArray(tree, v);
        }

        /** Only fields and constructors make something, so that no call does. */
        private void made(Tree tree) {
            Element method = enclosingMethod();
            if (method != null && method.getKind() != ElementKind.CONSTRUCTOR) bad(tree, "made in a call: " + tree);
        }

        @Override
        public Void visitAssignment(AssignmentTree tree, Void v) {
            written(tree.getVariable());
            return super.visitAssignment(tree, v);
        }

        @Override
        public Void visitCompoundAssignment(CompoundAssignmentTree tree, Void v) {
            written(tree.getVariable());
            return super.visitCompoundAssignment(tree, v);
        }

        @Override
        public Void visitUnary(UnaryTree tree, Void v) {
            if (tree.getKind() == Tree.Kind.POSTFIX_INCREMENT || tree.getKind() == Tree.Kind.POSTFIX_DECREMENT) {
                written(tree.getExpression());
            }
            return super.visitUnary(tree, v);
        }

        private void written(ExpressionTree tree) {
            ExpressionTree base = tree instanceof ArrayAccessTree ? ((ArrayAccessTree) tree).getExpression() : tree;
            Element target = element(base);
            if (target == null || target.getModifiers().contains(Modifier.STATIC)) bad(tree, "rule 5: " + tree + " is changed");
        }

        // ---- rule 6: exceptions ----

        @Override
        public Void visitThrow(ThrowTree tree, Void v) {
            Element method = enclosingMethod();
            String at = method.getEnclosingElement().getSimpleName() + "." + method.getSimpleName();
            String thrown = tree.getExpression() instanceof NewClassTree
                ? ((NewClassTree) tree.getExpression()).getIdentifier().toString() : "";
            if (!THROWERS.getOrDefault(at, Set.of()).contains(thrown)) bad(tree, "rule 6: " + tree);
            return super.visitThrow(tree, v);
        }

        // ---- rule 9: loops ----

        /** for (int x = ..; x < ..; x++), with x changed nowhere else, and a bound that the loop leaves alone. */
        @Override
        public Void visitForLoop(ForLoopTree tree, Void v) {
            if (!isCounted(tree)) bad(tree, "rule 9: the end of this loop can't be seen");
            return super.visitForLoop(tree, v);
        }

        private boolean isCounted(ForLoopTree tree) {
            if (tree.getInitializer().size() != 1 || tree.getUpdate().size() != 1 || tree.getCondition() == null) return false;
            if (!(tree.getInitializer().get(0) instanceof VariableTree)) return false;
            String counter = ((VariableTree) tree.getInitializer().get(0)).getName().toString();
            if (!(tree.getUpdate().get(0).getExpression() instanceof UnaryTree)) return false;
            UnaryTree step = (UnaryTree) tree.getUpdate().get(0).getExpression();
            boolean up = step.getKind() == Tree.Kind.POSTFIX_INCREMENT;
            if (!step.getExpression().toString().equals(counter)) return false;
            return bounds(tree.getCondition(), counter, up) && !Writes.in(tree.getStatement(), counter);
        }

        /** Whether one of the clauses that are joined by && holds the counter against a bound. */
        private static boolean bounds(ExpressionTree tree, String counter, boolean up) {
            if (tree instanceof ParenthesizedTree) return bounds(((ParenthesizedTree) tree).getExpression(), counter, up);
            if (!(tree instanceof BinaryTree)) return false;
            BinaryTree both = (BinaryTree) tree;
            if (both.getKind() == Tree.Kind.CONDITIONAL_AND) {
                return bounds(both.getLeftOperand(), counter, up) || bounds(both.getRightOperand(), counter, up);
            }
            Set<Tree.Kind> due = up ? EnumSet.of(Tree.Kind.LESS_THAN, Tree.Kind.LESS_THAN_EQUAL)
                : EnumSet.of(Tree.Kind.GREATER_THAN, Tree.Kind.GREATER_THAN_EQUAL);
            String left = both.getLeftOperand().toString();
            return due.contains(both.getKind()) && (left.equals(counter) || left.endsWith(" + " + counter));
        }
    }

    /** Whether a name is assigned to in a piece of the tree. */
    private static final class Writes extends com.sun.source.util.TreeScanner<Boolean, String> {
        static boolean in(Tree tree, String name) { return Boolean.TRUE.equals(new Writes().scan(tree, name)); }

        @Override
        public Boolean reduce(Boolean a, Boolean b) { return Boolean.TRUE.equals(a) || Boolean.TRUE.equals(b); }

        @Override
        public Boolean visitAssignment(AssignmentTree tree, String name) {
            return reduce(tree.getVariable().toString().equals(name), super.visitAssignment(tree, name));
        }

        @Override
        public Boolean visitCompoundAssignment(CompoundAssignmentTree tree, String name) {
            return reduce(tree.getVariable().toString().equals(name), super.visitCompoundAssignment(tree, name));
        }

        @Override
        public Boolean visitUnary(UnaryTree tree, String name) {
            boolean steps = tree.getKind() == Tree.Kind.POSTFIX_INCREMENT || tree.getKind() == Tree.Kind.POSTFIX_DECREMENT
                || tree.getKind() == Tree.Kind.PREFIX_INCREMENT || tree.getKind() == Tree.Kind.PREFIX_DECREMENT;
            return reduce(steps && tree.getExpression().toString().equals(name), super.visitUnary(tree, name));
        }
    }

    /** Who calls whom. */
    private static final class Calls {
        /** Rule 8: the only recursion; its depth is one of its parameters. */
        private static final String RECURSION = "GatePatch.Patch.grow(int,int,int)";

        private final Map<String, Set<String>> from = new LinkedHashMap<>();
        private final Set<String> called = new LinkedHashSet<>();
        private final Set<String> face = new LinkedHashSet<>();
        private final Map<String, Integer> depths = new HashMap<>();

        void name(String method) { from.computeIfAbsent(method, m -> new LinkedHashSet<>()); }

        /** Constructors and the methods of the face need nobody within who calls them. */
        void open(String method) { face.add(method); }

        void add(String caller, String callee) {
            name(caller);
            from.get(caller).add(callee);
            called.add(callee);
        }

        void check() {
            for (String m : from.keySet()) {
                int depth = depth(m, new ArrayList<>());
                if (depth > MOST_DEPTH) fault("rule 11: calls go " + depth + " deep from " + m);
                if (!face.contains(m) && !called.contains(m)) fault(m + " is called by nobody");
            }
            if (!from.containsKey(RECURSION) || !from.get(RECURSION).contains(RECURSION)) fault("there is no " + RECURSION);
        }

        private int depth(String method, List<String> open) {
            if (open.contains(method)) {
                fault("rule 8: a ring of calls: " + open + " " + method);
                return 0;
            }
            if (depths.containsKey(method)) return depths.get(method);
            open.add(method);
            int deepest = 0;
            for (String callee : from.getOrDefault(method, Set.of())) {
                if (!(callee.equals(RECURSION) && method.equals(RECURSION))) deepest = Math.max(deepest, depth(callee, open));
            }
            open.remove(method);
            depths.put(method, deepest + 1);
            return deepest + 1;
        }
    }
}
