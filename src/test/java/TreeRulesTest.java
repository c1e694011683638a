import com.sun.source.tree.AssignmentTree;
import com.sun.source.tree.BinaryTree;
import com.sun.source.tree.ClassTree;
import com.sun.source.tree.CompilationUnitTree;
import com.sun.source.tree.CompoundAssignmentTree;
import com.sun.source.tree.DoWhileLoopTree;
import com.sun.source.tree.EnhancedForLoopTree;
import com.sun.source.tree.ExpressionTree;
import com.sun.source.tree.ForLoopTree;
import com.sun.source.tree.IdentifierTree;
import com.sun.source.tree.LiteralTree;
import com.sun.source.tree.MemberSelectTree;
import com.sun.source.tree.MethodInvocationTree;
import com.sun.source.tree.MethodTree;
import com.sun.source.tree.NewClassTree;
import com.sun.source.tree.StatementTree;
import com.sun.source.tree.Tree;
import com.sun.source.tree.TypeCastTree;
import com.sun.source.tree.UnaryTree;
import com.sun.source.tree.VariableTree;
import com.sun.source.tree.WhileLoopTree;
import com.sun.source.util.JavacTask;
import com.sun.source.util.TreeScanner;
import java.io.IOException;
import java.nio.file.Path;
import java.util.ArrayList;
import java.util.HashMap;
import java.util.List;
import java.util.Map;
import java.util.Set;
import java.util.TreeMap;
import java.util.TreeSet;
import javax.lang.model.element.Modifier;
import javax.tools.JavaCompiler;
import javax.tools.StandardJavaFileManager;
import javax.tools.ToolProvider;

/** The rules of LANGUAGE.md that need the parsed program: types, divisors, loops, calls; run from the project's root. */
public final class TreeRulesTest {
    private static final Checks CHECKS = new Checks();
    private static final Path SOURCE = Path.of("src/main/java/NoisyCodes.java");
    private static final Set<String> LIBRARY = Set.of("Arrays.fill", "Integer.bitCount", "System.arraycopy");
    private static final int DEEPEST = 8;
    private static final int ENDLESS = 1000;

    private static final Set<String> OWN_CLASSES = new TreeSet<>();
    /** By a method's bare name, the bare names that it calls; a constructor's name is its class's. */
    private static final Map<String, Set<String>> CALLS = new TreeMap<>();

    public static void main(String[] args) throws IOException {
        CompilationUnitTree unit = parsed();
        collectClassesAndCalls(unit);
        rule3Types(unit);
        rule5StaticFields(unit);
        rule7Divisors(unit);
        rule7NoReferenceIsNull(unit);
        rule9Loops(unit);
        rules8And11CallsGoEightDeepAtMost();
        rule12ConstructorsCallNoMethod();
        CHECKS.end("TreeRulesTest");
    }

    private static CompilationUnitTree parsed() throws IOException {
        JavaCompiler compiler = ToolProvider.getSystemJavaCompiler();
        try (StandardJavaFileManager files = compiler.getStandardFileManager(null, null, null)) {
            JavacTask task = (JavacTask) compiler.getTask(null, files, null, null, null, files.getJavaFileObjects(SOURCE));
            return task.parse().iterator().next();
        }
    }

    private static void fine(String what, boolean fine) {
        CHECKS.sameText(what, fine ? "fine" : "not", "fine");
    }

    private static void collectClassesAndCalls(CompilationUnitTree unit) {
        new TreeScanner<Void, String>() {
            private String owner = "";

            public Void visitClass(ClassTree tree, String method) {
                String before = owner;
                owner = tree.getSimpleName().toString();
                OWN_CLASSES.add(owner);
                CALLS.computeIfAbsent(owner, key -> new TreeSet<>());
                super.visitClass(tree, owner);
                owner = before;
                return null;
            }

            public Void visitMethod(MethodTree tree, String method) {
                String name = nameOf(tree, owner);
                CALLS.computeIfAbsent(name, key -> new TreeSet<>());
                return super.visitMethod(tree, name);
            }

            public Void visitMethodInvocation(MethodInvocationTree tree, String method) {
                String called = tree.getMethodSelect().toString();
                if (!called.equals("super") && !LIBRARY.contains(called)) {
                    CALLS.get(method).add(called.substring(called.lastIndexOf('.') + 1));
                }
                return super.visitMethodInvocation(tree, method);
            }

            public Void visitNewClass(NewClassTree tree, String method) {
                String made = tree.getIdentifier().toString();
                if (!made.endsWith("Exception")) {
                    CALLS.get(method).add(made);
                }
                return super.visitNewClass(tree, method);
            }
        }.scan(unit, "");
        fine("classes and methods were seen", OWN_CLASSES.size() > 5 && CALLS.size() > 40);
    }

    private static String nameOf(MethodTree tree, String owner) {
        String name = tree.getName().toString();
        return name.equals("<init>") ? owner : name;
    }

    /** Rule 3, and less than it allows: int, boolean, rows of int, own classes and rows of them. */
    private static void rule3Types(CompilationUnitTree unit) {
        Set<String> allowed = new TreeSet<>(Set.of("int", "boolean", "int[]", "int[][]"));
        for (String own : OWN_CLASSES) {
            allowed.add(own);
            allowed.add(own + "[]");
        }
        new TreeScanner<Void, Void>() {
            public Void visitVariable(VariableTree tree, Void none) {
                fine("the type of " + tree, allowed.contains(tree.getType().toString()));
                return super.visitVariable(tree, none);
            }

            public Void visitMethod(MethodTree tree, Void none) {
                String type = String.valueOf(tree.getReturnType());
                fine("the type of " + tree.getName(), type.equals("null") || type.equals("void") || allowed.contains(type));
                return super.visitMethod(tree, none);
            }

            public Void visitTypeCast(TypeCastTree tree, Void none) {
                fine("the cast " + tree, false);
                return super.visitTypeCast(tree, none);
            }
        }.scan(unit, null);
    }

    private static void rule5StaticFields(CompilationUnitTree unit) {
        new TreeScanner<Void, Void>() {
            public Void visitClass(ClassTree tree, Void none) {
                for (Tree member : tree.getMembers()) {
                    fine("no block in " + tree.getSimpleName(), member.getKind() != Tree.Kind.BLOCK);
                    if (member instanceof VariableTree field && field.getModifiers().getFlags().contains(Modifier.STATIC)) {
                        fine("the constant " + field, field.getModifiers().getFlags().contains(Modifier.FINAL)
                                && field.getType().toString().equals("int") && field.getInitializer() != null);
                    }
                }
                return super.visitClass(tree, none);
            }
        }.scan(unit, null);
    }

    /** Rule 7: these are 1 or more from the constructor on, and set only by a begin that was not refused. */
    private static void rule7Divisors(CompilationUnitTree unit) {
        Set<String> known = Set.of("depth", "order", "field.order", "code.messageBits", "FULL_RATE");
        Set<String> seen = new TreeSet<>();
        new TreeScanner<Void, Void>() {
            public Void visitBinary(BinaryTree tree, Void none) {
                if (tree.getKind() == Tree.Kind.DIVIDE || tree.getKind() == Tree.Kind.REMAINDER) {
                    seen.add(tree.getRightOperand().toString());
                }
                return super.visitBinary(tree, none);
            }

            public Void visitCompoundAssignment(CompoundAssignmentTree tree, Void none) {
                fine("no division in " + tree, tree.getKind() != Tree.Kind.DIVIDE_ASSIGNMENT
                        && tree.getKind() != Tree.Kind.REMAINDER_ASSIGNMENT);
                return super.visitCompoundAssignment(tree, none);
            }
        }.scan(unit, null);
        CHECKS.sameText("the divisors", seen.toString(), new TreeSet<>(known).toString());
    }

    /** Rule 7: nothing is null in the text, and each field that is no number is final, so set by its constructor. */
    private static void rule7NoReferenceIsNull(CompilationUnitTree unit) {
        new TreeScanner<Void, Void>() {
            public Void visitLiteral(LiteralTree tree, Void none) {
                fine("no null in the text", tree.getKind() != Tree.Kind.NULL_LITERAL);
                return super.visitLiteral(tree, none);
            }

            public Void visitClass(ClassTree tree, Void none) {
                for (Tree member : tree.getMembers()) {
                    if (member instanceof VariableTree field && !Set.of("int", "boolean").contains(field.getType().toString())) {
                        fine(field + " is final", field.getModifiers().getFlags().contains(Modifier.FINAL));
                    }
                }
                return super.visitClass(tree, none);
            }
        }.scan(unit, null);
    }

    private static void rule9Loops(CompilationUnitTree unit) {
        List<ForLoopTree> loops = new ArrayList<>();
        new TreeScanner<Void, Void>() {
            public Void visitForLoop(ForLoopTree tree, Void none) {
                loops.add(tree);
                return super.visitForLoop(tree, none);
            }

            public Void visitWhileLoop(WhileLoopTree tree, Void none) {
                fine("a while without a counter: " + tree, false);
                return super.visitWhileLoop(tree, none);
            }

            public Void visitDoWhileLoop(DoWhileLoopTree tree, Void none) {
                fine("a do without a counter: " + tree, false);
                return super.visitDoWhileLoop(tree, none);
            }

            public Void visitEnhancedForLoop(EnhancedForLoopTree tree, Void none) {
                fine("a loop over " + tree.getExpression() + " is not looked at by this test", false);
                return super.visitEnhancedForLoop(tree, none);
            }
        }.scan(unit, null);
        fine("loops were seen", loops.size() > 15);
        for (ForLoopTree loop : loops) {
            fine("the loop " + loop, counts(loop));
        }
    }

    /** One counter that goes by 1 towards a bound; neither it nor what the bound is made of is set in the body. */
    private static boolean counts(ForLoopTree loop) {
        if (loop.getInitializer().size() != 1 || loop.getUpdate().size() != 1) {
            return false;
        }
        StatementTree first = loop.getInitializer().get(0);
        ExpressionTree step = loop.getUpdate().get(0).getExpression();
        if (!(first instanceof VariableTree counter) || !(step instanceof UnaryTree by)) {
            return false;
        }
        String name = counter.getName().toString();
        boolean up = by.getKind() == Tree.Kind.POSTFIX_INCREMENT;
        boolean down = by.getKind() == Tree.Kind.POSTFIX_DECREMENT;
        BinaryTree bound = boundOf(loop.getCondition());
        return by.getExpression().toString().equals(name) && bound.getLeftOperand().toString().equals(name)
                && (up && isBelow(bound) || down && isAbove(bound))
                && !namesIn(bound.getRightOperand()).contains(name)
                && setIn(loop.getStatement(), namesIn(bound.getRightOperand()), name).isEmpty();
    }

    private static boolean isBelow(BinaryTree bound) {
        return bound.getKind() == Tree.Kind.LESS_THAN || bound.getKind() == Tree.Kind.LESS_THAN_EQUAL;
    }

    private static boolean isAbove(BinaryTree bound) {
        return bound.getKind() == Tree.Kind.GREATER_THAN || bound.getKind() == Tree.Kind.GREATER_THAN_EQUAL;
    }

    /** What stands first where a condition is joined by "and". */
    private static BinaryTree boundOf(ExpressionTree condition) {
        BinaryTree whole = (BinaryTree) condition;
        return whole.getKind() == Tree.Kind.CONDITIONAL_AND ? boundOf(whole.getLeftOperand()) : whole;
    }

    private static Set<String> namesIn(Tree tree) {
        Set<String> names = new TreeSet<>();
        new TreeScanner<Void, Void>() {
            public Void visitIdentifier(IdentifierTree name, Void none) {
                names.add(name.getName().toString());
                return null;
            }

            public Void visitMemberSelect(MemberSelectTree name, Void none) {
                names.add(name.toString());
                return null;
            }
        }.scan(tree, null);
        return names;
    }

    private static Set<String> setIn(Tree body, Set<String> bound, String counter) {
        Set<String> set = new TreeSet<>();
        new TreeScanner<Void, Void>() {
            private void note(ExpressionTree target) {
                String name = target.toString();
                if (bound.contains(name) || name.equals(counter)) {
                    set.add(name);
                }
            }

            public Void visitAssignment(AssignmentTree tree, Void none) {
                note(tree.getVariable());
                return super.visitAssignment(tree, none);
            }

            public Void visitCompoundAssignment(CompoundAssignmentTree tree, Void none) {
                note(tree.getVariable());
                return super.visitCompoundAssignment(tree, none);
            }

            public Void visitUnary(UnaryTree tree, Void none) {
                note(tree.getExpression());
                return super.visitUnary(tree, none);
            }
        }.scan(body, null);
        return set;
    }

    private static void rules8And11CallsGoEightDeepAtMost() {
        Map<String, Integer> depths = new HashMap<>();
        for (String method : CALLS.keySet()) {
            int depth = depthOf(method, new ArrayList<>(), depths);
            fine(method + " goes " + depth + " deep", depth >= 1 && depth <= DEEPEST);
        }
    }

    /** Bare names are enough: methods of one name are taken for one, which can only make the calls look deeper. */
    private static int depthOf(String method, List<String> open, Map<String, Integer> depths) {
        if (open.contains(method)) {
            return ENDLESS;
        }
        if (!depths.containsKey(method)) {
            fine("the called method " + method + " stands in the file", CALLS.containsKey(method));
            open.add(method);
            int deepest = 0;
            for (String called : CALLS.getOrDefault(method, Set.of())) {
                deepest = Math.max(deepest, depthOf(called, open, depths));
            }
            open.remove(method);
            depths.put(method, deepest + 1);
        }
        return depths.get(method);
    }

    private static void rule12ConstructorsCallNoMethod() {
        for (String own : OWN_CLASSES) {
            for (String called : CALLS.get(own)) {
                fine("the constructor of " + own + " calls " + called, OWN_CLASSES.contains(called));
            }
        }
    }
}
