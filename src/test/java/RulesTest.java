import com.sun.source.tree.AssignmentTree;
import com.sun.source.tree.BinaryTree;
import com.sun.source.tree.ClassTree;
import com.sun.source.tree.CompilationUnitTree;
import com.sun.source.tree.CompoundAssignmentTree;
import com.sun.source.tree.DoWhileLoopTree;
import com.sun.source.tree.ExpressionTree;
import com.sun.source.tree.ForLoopTree;
import com.sun.source.tree.LambdaExpressionTree;
import com.sun.source.tree.MemberReferenceTree;
import com.sun.source.tree.MethodInvocationTree;
import com.sun.source.tree.MethodTree;
import com.sun.source.tree.NewArrayTree;
import com.sun.source.tree.NewClassTree;
import com.sun.source.tree.Tree;
import com.sun.source.tree.TypeCastTree;
import com.sun.source.tree.VariableTree;
import com.sun.source.tree.WhileLoopTree;
import com.sun.source.util.JavacTask;
import com.sun.source.util.TreePathScanner;
import com.sun.source.util.Trees;
import java.io.File;
import java.io.IOException;
import java.util.ArrayDeque;
import java.util.Deque;
import java.util.List;
import java.util.Map;
import java.util.Set;
import java.util.TreeMap;
import java.util.TreeSet;
import javax.lang.model.element.Element;
import javax.lang.model.element.ElementKind;
import javax.lang.model.element.ExecutableElement;
import javax.lang.model.element.Modifier;
import javax.lang.model.element.VariableElement;
import javax.lang.model.type.ArrayType;
import javax.lang.model.type.TypeKind;
import javax.lang.model.type.TypeMirror;
import javax.tools.JavaCompiler;
import javax.tools.JavaFileObject;
import javax.tools.StandardJavaFileManager;
import javax.tools.ToolProvider;

/** Those rules of LANGUAGE.md that need the program's tree: what calls what, what is made where, what divides. */
public final class RulesTest extends TreePathScanner<Void, Void> {
    private static final String SOURCE = "src/main/java/ChanceRings.java";
    private static final Set<String> LIBRARY = Set.of(
        "java.lang.Object.<init>", "java.lang.String.length", "java.lang.String.charAt", "java.lang.System.arraycopy",
        "java.util.NoSuchElementException.<init>");
    private static final Set<String> STATIC_TYPES = Set.of("int", "long", "boolean", "char", "java.lang.String");
    private static final int MOST_DEEP = 8;

    private final Due due = new Due("RulesTest");
    private final Map<String, Set<String>> calls = new TreeMap<>();
    private final Deque<String> open = new ArrayDeque<>();
    private String body = "";
    private boolean making;
    private Trees trees;

    public static void main(String[] args) throws IOException {
        JavaCompiler compiler = ToolProvider.getSystemJavaCompiler();
        if (compiler == null) {
            System.out.println("RulesTest: this java has no compiler inside it, so nothing is looked at");
            return;
        }
        new RulesTest().run(compiler);
    }

    private void run(JavaCompiler compiler) throws IOException {
        try (StandardJavaFileManager files = compiler.getStandardFileManager(null, null, null)) {
            Iterable<? extends JavaFileObject> source = files.getJavaFileObjects(new File(SOURCE));
            JavacTask task = (JavacTask) compiler.getTask(null, files, null, List.of("-proc:none"), null, source);
            trees = Trees.instance(task);
            for (CompilationUnitTree unit : task.parse()) {
                task.analyze();
                scan(unit, null);
            }
        }
        due.holds("methods were found", calls.size() > 100);
        for (String method : calls.keySet()) {
            int deep = depth(method, new ArrayDeque<>());
            due.holds("rule 11: calls from " + method + " go " + deep + " deep", deep <= MOST_DEEP);
        }
        due.finish();
    }

    private int depth(String method, Deque<String> above) {
        due.holds("rule 8: no recursion by " + method, !above.contains(method));
        if (above.contains(method)) {
            return 0;
        }
        above.push(method);
        int most = 0;
        for (String next : calls.getOrDefault(method, Set.of())) {
            most = Math.max(most, depth(next, above));
        }
        above.pop();
        return most + 1;
    }

    private Element element() {
        return trees.getElement(getCurrentPath());
    }

    private String where() {
        return open.isEmpty() ? "a field" : open.peek();
    }

    private static boolean isOwn(Element e) {
        return nameOf(e).startsWith("ChanceRings");
    }

    private static String nameOf(Element e) {
        return e.getEnclosingElement() + "." + e.getSimpleName();
    }

    @Override
    public Void visitClass(ClassTree node, Void nothing) {
        Element e = element();
        boolean member = e.getEnclosingElement().getKind() == ElementKind.CLASS;
        due.holds("rule 2: " + e + " is the class itself or a static one inside it",
            e.toString().equals("ChanceRings") || member && e.getModifiers().contains(Modifier.STATIC));
        return super.visitClass(node, nothing);
    }

    @Override
    public Void visitMethod(MethodTree node, Void nothing) {
        ExecutableElement e = (ExecutableElement) element();
        String name = nameOf(e);
        due.holds("one method has the name " + name, !calls.containsKey(name));
        calls.put(name, new TreeSet<>());
        due.holds("rule 11: seven parameters at most for " + name, e.getParameters().size() <= 7);
        open.push(name);
        body = String.valueOf(node.getBody());
        making = e.getKind() == ElementKind.CONSTRUCTOR;
        super.visitMethod(node, nothing);
        making = false;
        body = "";
        open.pop();
        return null;
    }

    @Override
    public Void visitVariable(VariableTree node, Void nothing) {
        VariableElement e = (VariableElement) element();
        due.holds("rule 3: the type of " + e + " in " + where(), isPlain(e.asType()));
        if (e.getKind() == ElementKind.FIELD && e.getModifiers().contains(Modifier.STATIC)) {
            due.holds("rule 5: static " + e, e.getModifiers().contains(Modifier.FINAL)
                && STATIC_TYPES.contains(e.asType().toString()) && e.getConstantValue() != null);
        }
        boolean field = e.getKind() == ElementKind.FIELD;
        making |= field;
        super.visitVariable(node, nothing);
        making &= !field;
        return null;
    }

    private static boolean isPlain(TypeMirror type) {
        if (type.getKind() == TypeKind.ARRAY) {
            TypeMirror of = ((ArrayType) type).getComponentType();
            boolean twofold = of.getKind() == TypeKind.ARRAY && ((ArrayType) of).getComponentType().getKind().isPrimitive();
            return twofold || of.getKind() != TypeKind.ARRAY && isPlain(of);
        }
        boolean number = type.getKind() == TypeKind.INT || type.getKind() == TypeKind.LONG || type.getKind() == TypeKind.BOOLEAN;
        return number || type.toString().equals("java.lang.String") || type.toString().startsWith("ChanceRings");
    }

    @Override
    public Void visitMethodInvocation(MethodInvocationTree node, Void nothing) {
        note(element());
        return super.visitMethodInvocation(node, nothing);
    }

    /** Rooms are made once, in constructors; later only exceptions are made. */
    @Override
    public Void visitNewClass(NewClassTree node, Void nothing) {
        Element e = element();
        note(e);
        due.holds("rule 2: no anonymous class in " + where(), node.getClassBody() == null);
        due.holds("rule 12: " + node + " in " + where(), making != nameOf(e).startsWith("java.util.NoSuchElement"));
        return super.visitNewClass(node, nothing);
    }

    @Override
    public Void visitNewArray(NewArrayTree node, Void nothing) {
        due.holds("rule 12: " + node + " in " + where(), making);
        for (ExpressionTree length : node.getDimensions()) {
            due.holds("rule 7: the length " + length + " is a constant", length.toString().matches("[A-Z_0-9 *]+"));
        }
        return super.visitNewArray(node, nothing);
    }

    private void note(Element called) {
        if (isOwn(called)) {
            if (!open.isEmpty()) {
                calls.get(open.peek()).add(nameOf(called));
            }
        } else {
            due.holds("rule 4: " + nameOf(called) + " in " + where(), LIBRARY.contains(nameOf(called)));
        }
    }

    @Override
    public Void visitBinary(BinaryTree node, Void nothing) {
        if (node.getKind() == Tree.Kind.DIVIDE || node.getKind() == Tree.Kind.REMAINDER) {
            lookAtDivisor(node.getRightOperand());
        }
        due.holds("rule 10: texts are not joined by + in " + where(), node.getKind() != Tree.Kind.PLUS
            || !trees.getTypeMirror(getCurrentPath()).toString().equals("java.lang.String"));
        return super.visitBinary(node, nothing);
    }

    @Override
    public Void visitCompoundAssignment(CompoundAssignmentTree node, Void nothing) {
        if (node.getKind() == Tree.Kind.DIVIDE_ASSIGNMENT || node.getKind() == Tree.Kind.REMAINDER_ASSIGNMENT) {
            lookAtDivisor(node.getExpression());
        }
        return super.visitCompoundAssignment(node, nothing);
    }

    /** A divisor is a constant, or its method compares it with 0 (or 1) somewhere. */
    private void lookAtDivisor(ExpressionTree divisor) {
        String name = divisor.toString();
        boolean looked = name.matches("[A-Z_]+|[1-9][0-9]*") || body.contains(name + " == 0") || body.contains(name + " != 0")
            || body.contains(name + " > 0") || body.contains(name + " < 1");
        due.holds("rule 7: the divisor " + name + " is looked at in " + where(), looked);
    }

    @Override
    public Void visitTypeCast(TypeCastTree node, Void nothing) {
        TypeMirror to = trees.getTypeMirror(getCurrentPath());
        due.holds("rule 6: a cast of numbers alone in " + where(), to.getKind().isPrimitive());
        return super.visitTypeCast(node, nothing);
    }

    @Override
    public Void visitLambdaExpression(LambdaExpressionTree node, Void nothing) {
        due.holds("rule 2: no lambda in " + where(), false);
        return super.visitLambdaExpression(node, nothing);
    }

    @Override
    public Void visitMemberReference(MemberReferenceTree node, Void nothing) {
        due.holds("rule 2: no method reference in " + where(), false);
        return super.visitMemberReference(node, nothing);
    }

    @Override
    public Void visitForLoop(ForLoopTree node, Void nothing) {
        String until = String.valueOf(node.getCondition());
        due.holds("rule 9: a bound in for (" + until + ") in " + where(), until.matches(".* (<|<=|>|>=) .*"));
        due.holds("rule 9: a step in for (" + until + ") in " + where(), node.getUpdate().size() == 1);
        for (Tree first : node.getInitializer()) {
            String counter = ((VariableTree) first).getName().toString();
            due.holds("rule 9: the counter " + counter + " is left alone in " + where(), !isSet(counter, node.getStatement()));
        }
        return super.visitForLoop(node, nothing);
    }

    private static boolean isSet(String counter, Tree inside) {
        String text = inside.toString();
        return text.matches("(?s).*\\b" + counter + "( [-+*/%&|^]?= |\\+\\+|--).*");
    }

    @Override
    public Void visitWhileLoop(WhileLoopTree node, Void nothing) {
        String until = node.getCondition().toString();
        due.holds("rule 9: while " + until + " counts up to a bound in " + where(),
            until.startsWith("(next < tape.length && ") && node.getStatement().toString().contains("next++;"));
        return super.visitWhileLoop(node, nothing);
    }

    @Override
    public Void visitDoWhileLoop(DoWhileLoopTree node, Void nothing) {
        due.holds("rule 9: no do in " + where(), false);
        return super.visitDoWhileLoop(node, nothing);
    }

    @Override
    public Void visitAssignment(AssignmentTree node, Void nothing) {
        due.holds("rule 3: what is set in " + where(), isPlain(trees.getTypeMirror(getCurrentPath())));
        return super.visitAssignment(node, nothing);
    }
}
