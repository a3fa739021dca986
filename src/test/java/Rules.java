import com.sun.source.tree.AnnotationTree;
import com.sun.source.tree.ArrayTypeTree;
import com.sun.source.tree.AssertTree;
import com.sun.source.tree.AssignmentTree;
import com.sun.source.tree.BinaryTree;
import com.sun.source.tree.BlockTree;
import com.sun.source.tree.ClassTree;
import com.sun.source.tree.CompilationUnitTree;
import com.sun.source.tree.CompoundAssignmentTree;
import com.sun.source.tree.DoWhileLoopTree;
import com.sun.source.tree.EnhancedForLoopTree;
import com.sun.source.tree.ExpressionTree;
import com.sun.source.tree.ForLoopTree;
import com.sun.source.tree.IdentifierTree;
import com.sun.source.tree.InstanceOfTree;
import com.sun.source.tree.LambdaExpressionTree;
import com.sun.source.tree.LiteralTree;
import com.sun.source.tree.MemberReferenceTree;
import com.sun.source.tree.MemberSelectTree;
import com.sun.source.tree.MethodInvocationTree;
import com.sun.source.tree.MethodTree;
import com.sun.source.tree.NewArrayTree;
import com.sun.source.tree.NewClassTree;
import com.sun.source.tree.ParenthesizedTree;
import com.sun.source.tree.PrimitiveTypeTree;
import com.sun.source.tree.StatementTree;
import com.sun.source.tree.SynchronizedTree;
import com.sun.source.tree.ThrowTree;
import com.sun.source.tree.Tree;
import com.sun.source.tree.Tree.Kind;
import com.sun.source.tree.TryTree;
import com.sun.source.tree.TypeCastTree;
import com.sun.source.tree.UnaryTree;
import com.sun.source.tree.VariableTree;
import com.sun.source.tree.WhileLoopTree;
import com.sun.source.util.JavacTask;
import com.sun.source.util.SourcePositions;
import com.sun.source.util.TreeScanner;
import com.sun.source.util.Trees;
import java.io.IOException;
import java.net.URI;
import java.util.ArrayList;
import java.util.HashSet;
import java.util.List;
import java.util.Map;
import java.util.Set;
import java.util.TreeMap;
import java.util.TreeSet;
import javax.lang.model.element.Modifier;
import javax.lang.model.type.TypeKind;
import javax.tools.JavaCompiler;
import javax.tools.JavaFileObject;
import javax.tools.SimpleJavaFileObject;
import javax.tools.ToolProvider;

/**
 * Tells which rules of LANGUAGE.md a source breaks, as far as they can be read off its syntax: not
 * that an index is in range (rule 7), and of rules 1 and 9 only what FaceTest and javac leave.
 * Where that is simpler it is stricter than the rule: it allows no local array and no loop but for.
 */
final class Rules extends TreeScanner<Void, Void> {
    private static final int MOST_PARAMETERS = 7;
    private static final int MOST_LINES = 60;
    private static final int MOST_FIELDS = 40;
    private static final int DEEPEST_CALL = 6;

    private final CompilationUnitTree unit;
    private final SourcePositions positions;
    private final Set<String> broken = new TreeSet<>();
    private final Set<String> constants = new HashSet<>();
    private final Set<String> arrays = new HashSet<>();
    private final Map<String, Set<String>> calls = new TreeMap<>();
    private String method = "";

    private Rules(CompilationUnitTree unit, SourcePositions positions) {
        this.unit = unit;
        this.positions = positions;
    }

    /** Each broken rule as "number: what, line". */
    static Set<String> brokenBy(String source) throws IOException {
        JavaCompiler compiler = ToolProvider.getSystemJavaCompiler();
        JavaFileObject file = new SimpleJavaFileObject(URI.create("string:///X.java"),
            JavaFileObject.Kind.SOURCE) {
            @Override
            public CharSequence getCharContent(boolean ignoreEncodingErrors) {
                return source;
            }
        };
        JavacTask task = (JavacTask) compiler.getTask(null, null, null, null, null, List.of(file));
        CompilationUnitTree unit = task.parse().iterator().next();
        Rules rules = new Rules(unit, Trees.instance(task).getSourcePositions());
        rules.read();
        return rules.broken;
    }

    private long line(Tree tree, boolean end) {
        long at = end ? positions.getEndPosition(unit, tree) : positions.getStartPosition(unit, tree);
        return unit.getLineMap().getLineNumber(at);
    }

    private void require(boolean kept, int rule, String what, Tree tree) {
        if (!kept) {
            broken.add(rule + ": " + what + ", line " + line(tree, false));
        }
    }

    private Void refuse(int rule, String what, Tree tree) {
        require(false, rule, what, tree);
        return null;
    }

    private void read() {
        require(unit.getPackageName() == null, 1, "a package line", unit);
        require(unit.getImports().isEmpty(), 3, "an import", unit);
        require(unit.getTypeDecls().size() == 1, 1, "not one class", unit);
        ClassTree face = (ClassTree) unit.getTypeDecls().get(0);
        require(face.getKind() == Kind.CLASS && face.getExtendsClause() == null
            && face.getImplementsClause().isEmpty(), 1, "not a plain class", face);
        int fields = 0;
        for (Tree member : face.getMembers()) {
            if (member instanceof VariableTree field) {
                fields += readField(field) ? 1 : 0;
            } else if (member instanceof MethodTree made) {
                calls.put(made.getName().toString(), new TreeSet<>());
            }
        }
        require(fields <= MOST_FIELDS, 10, fields + " fields", face);
        for (Tree member : face.getMembers()) {
            readMember(member);
        }
        for (String name : calls.keySet()) {
            require(depth(name, new ArrayList<>()) <= DEEPEST_CALL, 10, name + " calls too deep", face);
        }
    }

    /** Answers whether the field is one beside the constants. */
    private boolean readField(VariableTree field) {
        Set<Modifier> flags = field.getModifiers().getFlags();
        if (field.getType() instanceof ArrayTypeTree) {
            arrays.add(field.getName().toString());
            require(flags.contains(Modifier.FINAL), 4, "an array field that can change", field);
        }
        if (!flags.contains(Modifier.STATIC)) {
            return true;
        }
        constants.add(field.getName().toString());
        require(flags.contains(Modifier.FINAL) && field.getInitializer() != null, 5,
            "a static field that is no constant", field);
        require(isPrimitive(field.getType(), TypeKind.INT) || isPrimitive(field.getType(), TypeKind.LONG),
            5, "a static field that is no int or long", field);
        return false;
    }

    private void readMember(Tree member) {
        if (member instanceof VariableTree field) {
            readType(field.getType(), field);
            scan(field.getModifiers(), null);
            if (field.getInitializer() instanceof NewArrayTree made) {
                readArray(made);
            } else {
                scan(field.getInitializer(), null);
            }
        } else if (member instanceof MethodTree made) {
            readMethod(made);
        } else if (member instanceof BlockTree) {
            refuse(5, "an initialiser block", member);
        } else {
            refuse(1, "a nested type", member);
        }
    }

    private void readArray(NewArrayTree made) {
        boolean plain = made.getInitializers() == null && made.getDimensions().size() == 1
            && !(made.getType() instanceof ArrayTypeTree);
        require(plain, 4, "an array that is not made by one length", made);
        if (plain) {
            ExpressionTree length = made.getDimensions().get(0);
            boolean literal = length instanceof LiteralTree number
                && number.getValue() instanceof Integer n && n >= 1;
            boolean constant = length instanceof IdentifierTree name
                && constants.contains(name.getName().toString());
            require(literal || constant, 4, "an array's length", made);
        }
    }

    private void readMethod(MethodTree made) {
        method = made.getName().toString();
        long lines = line(made, true) - line(made, false) + 1;
        require(lines <= MOST_LINES, 10, method + " has " + lines + " lines", made);
        require(made.getParameters().size() <= MOST_PARAMETERS, 10, method + "'s parameters", made);
        require(made.getThrows().isEmpty() && made.getTypeParameters().isEmpty(), 6, method, made);
        require(!made.getModifiers().getFlags().contains(Modifier.SYNCHRONIZED), 6, method, made);
        if (made.getReturnType() != null && !isPrimitive(made.getReturnType(), TypeKind.VOID)) {
            require(!(made.getReturnType() instanceof ArrayTypeTree), 4, method + " answers an array", made);
            readType(made.getReturnType(), made);
        }
        for (VariableTree parameter : made.getParameters()) {
            readType(parameter.getType(), parameter);
        }
        scan(made.getModifiers(), null);
        scan(made.getBody(), null);
    }

    private static boolean isPrimitive(Tree type, TypeKind kind) {
        return type instanceof PrimitiveTypeTree primitive && primitive.getPrimitiveTypeKind() == kind;
    }

    private void readType(Tree type, Tree where) {
        Tree one = type instanceof ArrayTypeTree array ? array.getType() : type;
        require(one instanceof PrimitiveTypeTree && !isPrimitive(one, TypeKind.FLOAT)
            && !isPrimitive(one, TypeKind.DOUBLE), 2, "the type " + type, where);
    }

    /** The deepest chain of calls from the method on; a chain that comes back is recursion. */
    private int depth(String name, List<String> chain) {
        if (chain.contains(name)) {
            broken.add("8: recursion through " + name);
            return 0;
        }
        chain.add(name);
        int deepest = 0;
        for (String called : calls.get(name)) {
            deepest = Math.max(deepest, depth(called, chain));
        }
        chain.remove(name);
        return deepest + 1;
    }

    @Override
    public Void visitVariable(VariableTree local, Void none) {
        readType(local.getType(), local);
        require(!(local.getType() instanceof ArrayTypeTree), 4, "a local array", local);
        return super.visitVariable(local, none);
    }

    @Override
    public Void visitLiteral(LiteralTree literal, Void none) {
        Kind kind = literal.getKind();
        require(kind != Kind.STRING_LITERAL && kind != Kind.FLOAT_LITERAL && kind != Kind.DOUBLE_LITERAL,
            2, "the literal " + literal, literal);
        require(kind != Kind.NULL_LITERAL, 4, "null", literal);
        return null;
    }

    @Override
    public Void visitMemberSelect(MemberSelectTree select, Void none) {
        require(select.getIdentifier().contentEquals("length"), 3, select.toString(), select);
        return super.visitMemberSelect(select, none);
    }

    @Override
    public Void visitAnnotation(AnnotationTree annotation, Void none) {
        return refuse(3, annotation.toString(), annotation);
    }

    @Override
    public Void visitMethodInvocation(MethodInvocationTree call, Void none) {
        String called = call.getMethodSelect().toString();
        require(calls.containsKey(called), 3, "a call of " + called, call);
        if (calls.containsKey(called)) {
            calls.get(method).add(called);
        }
        for (ExpressionTree argument : call.getArguments()) {
            new TreeScanner<Void, Void>() {
                @Override
                public Void visitMethodInvocation(MethodInvocationTree inner, Void nothing) {
                    return refuse(10, "a call inside another's arguments", inner);
                }
            }.scan(argument, null);
        }
        return super.visitMethodInvocation(call, none);
    }

    @Override
    public Void visitNewArray(NewArrayTree made, Void none) {
        return refuse(4, "an array made in " + method, made);
    }

    @Override
    public Void visitNewClass(NewClassTree made, Void none) {
        return refuse(4, "an object made in " + method, made);
    }

    @Override
    public Void visitClass(ClassTree nested, Void none) {
        return refuse(1, "a nested type", nested);
    }

    @Override
    public Void visitThrow(ThrowTree tree, Void none) {
        return refuse(6, "throw", tree);
    }

    @Override
    public Void visitTry(TryTree tree, Void none) {
        return refuse(6, "try", tree);
    }

    @Override
    public Void visitSynchronized(SynchronizedTree tree, Void none) {
        return refuse(6, "synchronized", tree);
    }

    @Override
    public Void visitAssert(AssertTree tree, Void none) {
        return refuse(6, "assert", tree);
    }

    @Override
    public Void visitInstanceOf(InstanceOfTree tree, Void none) {
        return refuse(6, "instanceof", tree);
    }

    @Override
    public Void visitLambdaExpression(LambdaExpressionTree tree, Void none) {
        return refuse(6, "a lambda", tree);
    }

    @Override
    public Void visitMemberReference(MemberReferenceTree tree, Void none) {
        return refuse(6, "a method reference", tree);
    }

    @Override
    public Void visitTypeCast(TypeCastTree cast, Void none) {
        require(cast.getType() instanceof PrimitiveTypeTree, 6, "a cast to " + cast.getType(), cast);
        return scan(cast.getExpression(), none);
    }

    @Override
    public Void visitBinary(BinaryTree binary, Void none) {
        Kind kind = binary.getKind();
        if (kind == Kind.DIVIDE || kind == Kind.REMAINDER) {
            readDivisor(binary.getRightOperand());
        }
        if (kind == Kind.EQUAL_TO || kind == Kind.NOT_EQUAL_TO) {
            require(!arrays.contains(binary.getLeftOperand().toString())
                && !arrays.contains(binary.getRightOperand().toString()), 4, "arrays compared", binary);
        }
        return super.visitBinary(binary, none);
    }

    @Override
    public Void visitCompoundAssignment(CompoundAssignmentTree assignment, Void none) {
        Kind kind = assignment.getKind();
        if (kind == Kind.DIVIDE_ASSIGNMENT || kind == Kind.REMAINDER_ASSIGNMENT) {
            readDivisor(assignment.getExpression());
        }
        return super.visitCompoundAssignment(assignment, none);
    }

    private void readDivisor(ExpressionTree divisor) {
        require(divisor instanceof LiteralTree literal && literal.getValue() instanceof Integer number
            && number != 0, 7, "the divisor " + divisor, divisor);
    }

    @Override
    public Void visitWhileLoop(WhileLoopTree loop, Void none) {
        refuse(8, "a while loop", loop);
        return super.visitWhileLoop(loop, none);
    }

    @Override
    public Void visitDoWhileLoop(DoWhileLoopTree loop, Void none) {
        refuse(8, "a do loop", loop);
        return super.visitDoWhileLoop(loop, none);
    }

    @Override
    public Void visitEnhancedForLoop(EnhancedForLoopTree loop, Void none) {
        refuse(8, "a loop over an array", loop);
        return super.visitEnhancedForLoop(loop, none);
    }

    @Override
    public Void visitForLoop(ForLoopTree loop, Void none) {
        require(ends(loop), 8, "a loop without a counter against a bound", loop);
        return super.visitForLoop(loop, none);
    }

    private static boolean ends(ForLoopTree loop) {
        if (loop.getInitializer().size() != 1 || loop.getUpdate().size() != 1
            || !(loop.getInitializer().get(0) instanceof VariableTree counter)) {
            return false;
        }
        String name = counter.getName().toString();
        String update = loop.getUpdate().get(0).toString();
        Set<String> assigned = assignedIn(loop.getStatement());
        boolean up = update.equals(name + "++;");
        boolean down = update.equals(name + "--;");
        return (up || down) && !assigned.contains(name)
            && isBounded(loop.getCondition(), name, up, assigned);
    }

    private static boolean isBounded(ExpressionTree condition, String name, boolean up,
        Set<String> assigned) {
        if (condition instanceof ParenthesizedTree inner) {
            return isBounded(inner.getExpression(), name, up, assigned);
        }
        if (!(condition instanceof BinaryTree binary)) {
            return false;
        }
        Kind kind = binary.getKind();
        if (kind == Kind.CONDITIONAL_AND) {
            return isBounded(binary.getLeftOperand(), name, up, assigned)
                || isBounded(binary.getRightOperand(), name, up, assigned);
        }
        // A <= or a > could meet a bound that no counter passes.
        return kind == (up ? Kind.LESS_THAN : Kind.GREATER_THAN_EQUAL)
            && binary.getLeftOperand().toString().equals(name)
            && isSteady(binary.getRightOperand(), assigned);
    }

    /** Whether the bound stays as it is while the loop runs: names that the body leaves, and sums. */
    private static boolean isSteady(ExpressionTree bound, Set<String> assigned) {
        boolean[] steady = {true};
        new TreeScanner<Void, Void>() {
            @Override
            public Void visitIdentifier(IdentifierTree name, Void none) {
                steady[0] &= !assigned.contains(name.getName().toString());
                return null;
            }

            @Override
            public Void visitMethodInvocation(MethodInvocationTree call, Void none) {
                steady[0] = false;
                return null;
            }
        }.scan(bound, null);
        return steady[0];
    }

    private static Set<String> assignedIn(StatementTree body) {
        Set<String> names = new HashSet<>();
        new TreeScanner<Void, Void>() {
            @Override
            public Void visitAssignment(AssignmentTree assignment, Void none) {
                names.add(assignment.getVariable().toString());
                return super.visitAssignment(assignment, none);
            }

            @Override
            public Void visitCompoundAssignment(CompoundAssignmentTree assignment, Void none) {
                names.add(assignment.getVariable().toString());
                return super.visitCompoundAssignment(assignment, none);
            }

            @Override
            public Void visitUnary(UnaryTree unary, Void none) {
                names.add(unary.getExpression().toString());
                return super.visitUnary(unary, none);
            }
        }.scan(body, null);
        return names;
    }
}
