import java.util.ArrayList;
import java.util.List;

/**
 * The document once more, written in another way to compare the program with: it keeps a tree of the program
 * and what was set where, and runs all of it anew from the start, by recursion, for every point that is passed.
 */
final class DeskModel {
    /** A number, a variable, a call or two expressions with an operator between them. */
    private record Expression(char kind, int number, List<Expression> parts) { }

    private record Statement(char kind, int line, int variable, Expression expression, List<Statement> first,
        List<Statement> second) { }

    private record Function(int parameters, List<Statement> block) { }

    /** A value given to a variable while the machine waited after so many points. */
    private record Change(int after, int frame, int variable, int value) { }

    private static final class Frame {
        final int function;
        final int[] variables = new int[6];
        int line;

        Frame(int function) {
            this.function = function;
        }
    }

    private static final class Break {
        Expression condition;
        int ignore;
        boolean log;
        int hits;
    }

    private static final class Thrown extends RuntimeException {
        private static final long serialVersionUID = 1;
        final int value;

        Thrown(int value) {
            super(null, null, false, false);
            this.value = value;
        }
    }

    private static final class Returned extends RuntimeException {
        private static final long serialVersionUID = 1;
        final int value;

        Returned(int value) {
            super(null, null, false, false);
            this.value = value;
        }
    }

    private static final class Halted extends RuntimeException {
        private static final long serialVersionUID = 1;

        Halted() {
            super(null, null, false, false);
        }
    }

    private static final class NoSuchText extends RuntimeException {
        private static final long serialVersionUID = 1;

        NoSuchText() {
            super(null, null, false, false);
        }
    }

    /** One run from the start, or of an expression aside, that halts before it passes one point too many. */
    private final class Run {
        final List<Frame> stack = new ArrayList<>();
        final List<Integer> put = new ArrayList<>();
        final List<Change> changed;
        final int limit;
        int reached = 0;
        boolean thrownSincePoint = false;

        Run(int limit, List<Change> changed) {
            this.limit = limit;
            this.changed = changed;
        }

        Frame top() {
            return stack.get(stack.size() - 1);
        }

        int call(int function, int[] arguments) {
            if (stack.size() == 6) {
                throw thrown(1002);
            }
            Frame frame = new Frame(function);
            System.arraycopy(arguments, 0, frame.variables, 0, arguments.length);
            stack.add(frame);
            int value = 0;
            try {
                run(functions[function].block());
            } catch (Returned returned) {
                value = returned.value;
            }
            stack.remove(stack.size() - 1);
            return value;
        }

        Thrown thrown(int value) {
            thrownSincePoint = true;
            return new Thrown(value);
        }

        void run(List<Statement> block) {
            for (Statement statement : block) {
                run(statement);
            }
        }

        void point(Statement statement) {
            top().line = statement.line();
            for (Change change : changed) {
                if (change.after() == reached) {
                    stack.get(stack.size() - 1 - change.frame()).variables[change.variable()] = change.value();
                }
            }
            if (reached == limit) {
                throw new Halted();
            }
            reached++;
            thrownSincePoint = false;
        }

        void run(Statement statement) {
            point(statement);
            switch (statement.kind()) {
                case '=' -> {
                    int value = work(statement.expression());
                    top().variables[statement.variable()] = value;
                }
                case '!' -> put.add(work(statement.expression()));
                case '^' -> throw new Returned(work(statement.expression()));
                case '#' -> throw thrown(work(statement.expression()));
                case '?' -> {
                    if (work(statement.expression()) != 0) {
                        run(statement.first());
                    }
                }
                case '@' -> {
                    while (work(statement.expression()) != 0) {
                        run(statement.first());
                        point(statement);
                    }
                }
                default -> runTry(statement);
            }
        }

        void runTry(Statement statement) {
            int height = stack.size();
            try {
                run(statement.first());
                return;
            } catch (Thrown caught) {
                while (stack.size() > height) {
                    stack.remove(stack.size() - 1);
                }
                top().variables[4] = caught.value;
            }
            run(statement.second());
        }

        int work(Expression expression) {
            List<Expression> parts = expression.parts();
            switch (expression.kind()) {
                case 'n':
                    return expression.number();
                case 'v':
                    return top().variables[expression.number()];
                case 'c':
                    int[] arguments = new int[parts.size()];
                    for (int i = 0; i < arguments.length; i++) {
                        arguments[i] = work(parts.get(i));
                    }
                    return call(expression.number(), arguments);
                default:
                    int left = work(parts.get(0));
                    int right = work(parts.get(1));
                    if (expression.kind() == '/' && right == 0) {
                        throw thrown(1001);
                    }
                    return switch (expression.kind()) {
                        case '+' -> left + right;
                        case '-' -> left - right;
                        case '*' -> left * right;
                        case '/' -> (int) ((long) left / right);
                        case '<' -> left < right ? 1 : 0;
                        default -> left == right ? 1 : 0;
                    };
            }
        }
    }

    private final StringBuilder text = new StringBuilder();
    private Function[] functions = null;
    private int lines = 0;
    private final Break[] breaks = new Break[40];
    private final List<Change> changes = new ArrayList<>();
    private final List<Integer> notes = new ArrayList<>();
    private Run now = null;
    private int state = 0;
    private int result = 0;
    private int passed = 0;
    private boolean watching = false;
    private int value = 0;
    private int asideFailure = 0;

    boolean write(char c) {
        if (text.length() == 150 || c < 32 || c > 126) {
            return false;
        }
        text.append(c);
        return true;
    }

    int load() {
        Parser parser = new Parser(taken());
        Function[] read;
        try {
            read = parser.program();
        } catch (NoSuchText none) {
            return -1;
        }
        functions = read;
        lines = parser.lines;
        java.util.Arrays.fill(breaks, null);
        notes.clear();
        now = null;
        state = 0;
        result = 0;
        passed = 0;
        watching = false;
        value = 0;
        return lines;
    }

    int start() {
        if (functions == null) {
            return -1;
        }
        notes.clear();
        changes.clear();
        for (Break there : breaks) {
            if (there != null) {
                there.hits = 0;
            }
        }
        passed = 0;
        runTo(0);
        return state;
    }

    private void runTo(int points) {
        now = new Run(points, changes);
        result = 0;
        try {
            result = now.call(0, new int[0]);
            state = 2;
        } catch (Thrown thrown) {
            result = thrown.value;
            state = 3;
        } catch (Halted halted) {
            state = 1;
        }
    }

    int state() {
        return state;
    }

    int result() {
        return result;
    }

    private boolean hasLine(int line) {
        return line >= 0 && line < lines;
    }

    boolean stop(int line, int ignore, boolean log) {
        String condition = taken();
        Break made = new Break();
        made.ignore = ignore;
        made.log = log;
        if (!hasLine(line) || ignore < 0) {
            return false;
        }
        if (!condition.isEmpty()) {
            made.condition = expressionOrNull(condition);
            if (made.condition == null) {
                return false;
            }
        }
        breaks[line] = made;
        return true;
    }

    int unstop(int line) {
        int hits = hits(line);
        if (hits >= 0) {
            breaks[line] = null;
        }
        return hits;
    }

    int hits(int line) {
        return hasLine(line) && breaks[line] != null ? breaks[line].hits : -1;
    }

    void watch(boolean on) {
        watching = on;
    }

    int go(int kind, int n) {
        if (kind < 0 || kind > 3 || n < 1 || n > 50 || state != 1) {
            return -1;
        }
        int before = now.stack.size();
        for (int i = 0; i < n; i++) {
            passed++;
            runTo(passed);
            if (state != 1) {
                return state == 3 ? 5 : 4;
            }
            boolean stops = reach();
            if (watching && now.thrownSincePoint) {
                return 3;
            }
            if (stops) {
                return 1;
            }
            int frames = now.stack.size();
            if (kind == 1 || kind == 2 && frames <= before || kind == 3 && frames < before) {
                return 2;
            }
        }
        return 0;
    }

    private boolean reach() {
        Break here = breaks[now.top().line];
        if (here == null) {
            return false;
        }
        Integer condition = here.condition == null ? Integer.valueOf(0) : aside(now.top(), here.condition);
        if (condition == null || here.condition != null && condition == 0) {
            return false;
        }
        here.hits++;
        if (here.hits > here.ignore) {
            if (!here.log) {
                return true;
            }
            notes.add(condition);
        }
        return false;
    }

    /** The value; null if it fails, and then asideFailure tells how. */
    private Integer aside(Frame frame, Expression expression) {
        Run run = new Run(100, List.of());
        Frame copy = new Frame(frame.function);
        System.arraycopy(frame.variables, 0, copy.variables, 0, 6);
        run.stack.add(copy);
        try {
            return run.work(expression);
        } catch (Thrown thrown) {
            asideFailure = -2;
        } catch (Halted halted) {
            asideFailure = -3;
        }
        return null;
    }

    int points() {
        return passed;
    }

    int depth() {
        return state == 1 ? now.stack.size() : 0;
    }

    private Frame frame(int frame) {
        return frame >= 0 && frame < depth() ? now.stack.get(depth() - 1 - frame) : null;
    }

    int line(int frame) {
        return frame(frame) == null ? -1 : frame(frame).line;
    }

    int function(int frame) {
        return frame(frame) == null ? -1 : frame(frame).function;
    }

    int variable(int frame, int v) {
        return frame(frame) == null || v < 0 || v > 5 ? 0 : frame(frame).variables[v];
    }

    boolean set(int frame, int v, int value) {
        if (frame(frame) == null || v < 0 || v > 5) {
            return false;
        }
        changes.add(new Change(passed, frame, v, value));
        frame(frame).variables[v] = value;
        return true;
    }

    int evaluate(int frame) {
        Expression expression = expressionOrNull(taken());
        if (frame(frame) == null || expression == null) {
            return -1;
        }
        Integer worked = aside(frame(frame), expression);
        if (worked == null) {
            return asideFailure;
        }
        value = worked;
        return 0;
    }

    int value() {
        return value;
    }

    int output(int k) {
        return now == null ? 0 : latest(now.put, k);
    }

    int note(int k) {
        return latest(notes, k);
    }

    private static int latest(List<Integer> row, int k) {
        if (k == -1) {
            return row.size();
        }
        return k < 0 || k > 15 || k >= row.size() ? 0 : row.get(row.size() - 1 - k);
    }

    private String taken() {
        String whole = text.toString();
        text.setLength(0);
        return whole;
    }

    private Expression expressionOrNull(String whole) {
        if (functions == null) {
            return null;
        }
        try {
            return new Parser(whole).wholeExpression(functions);
        } catch (NoSuchText none) {
            return null;
        }
    }

    /** Reads the tree, and looks at the calls when all functions are known. */
    private static final class Parser {
        private final String text;
        private final List<Expression> calls = new ArrayList<>();
        private int at = 0;
        int lines = 0;

        Parser(String text) {
            this.text = text;
        }

        Function[] program() {
            Function[] read = new Function[4];
            do {
                int letter = "ABCD".indexOf(next());
                int parameters = "0123".indexOf(next());
                if (letter < 0 || parameters < 0 || read[letter] != null) {
                    throw new NoSuchText();
                }
                read[letter] = new Function(parameters, block(1));
            } while (at < text.length());
            if (read[0] == null || read[0].parameters() != 0 || lines > 40) {
                throw new NoSuchText();
            }
            lookAtCalls(read);
            return read;
        }

        Expression wholeExpression(Function[] functions) {
            Expression whole = expression(0);
            if (at < text.length()) {
                throw new NoSuchText();
            }
            lookAtCalls(functions);
            return whole;
        }

        private void lookAtCalls(Function[] functions) {
            for (Expression call : calls) {
                Function called = functions[call.number()];
                if (called == null || called.parameters() != call.parts().size()) {
                    throw new NoSuchText();
                }
            }
        }

        private char next() {
            if (at >= text.length()) {
                throw new NoSuchText();
            }
            return text.charAt(at++);
        }

        private boolean at(String oneOf) {
            return at < text.length() && oneOf.indexOf(text.charAt(at)) >= 0;
        }

        private void must(char wanted) {
            if (next() != wanted) {
                throw new NoSuchText();
            }
        }

        private List<Statement> block(int deep) {
            must('{');
            if (deep > 6) {
                throw new NoSuchText();
            }
            List<Statement> read = new ArrayList<>();
            while (!at("}")) {
                read.add(statement(deep));
            }
            must('}');
            return read;
        }

        private Statement statement(int deep) {
            int line = lines++;
            char kind = next();
            int variable = "abcdef".indexOf(kind);
            if (kind == '~') {
                List<Statement> first = block(deep + 1);
                return new Statement(kind, line, 0, null, first, block(deep + 1));
            }
            if (kind == '?' || kind == '@') {
                Expression expression = expression(0);
                return new Statement(kind, line, 0, expression, block(deep + 1), null);
            }
            if (variable >= 0) {
                must('=');
                kind = '=';
            } else if (kind != '!' && kind != '^' && kind != '#') {
                throw new NoSuchText();
            }
            Expression expression = expression(0);
            must(';');
            return new Statement(kind, line, variable, expression, null, null);
        }

        private Expression expression(int deep) {
            Expression left = term(deep);
            while (at("+-*/<=")) {
                char operator = next();
                left = new Expression(operator, 0, List.of(left, term(deep)));
            }
            return left;
        }

        private Expression term(int deep) {
            if (at("0123456789")) {
                int from = at;
                while (at("0123456789")) {
                    at++;
                }
                if (at - from > 3) {
                    throw new NoSuchText();
                }
                return new Expression('n', Integer.parseInt(text.substring(from, at)), List.of());
            }
            char first = next();
            int variable = "abcdef".indexOf(first);
            if (variable >= 0) {
                return new Expression('v', variable, List.of());
            }
            int function = "ABCD".indexOf(first);
            if (first != '(' && function < 0 || deep == 5) {
                throw new NoSuchText();
            }
            if (function < 0) {
                Expression inner = expression(deep + 1);
                must(')');
                return inner;
            }
            return call(function, deep + 1);
        }

        private Expression call(int function, int deep) {
            must('(');
            List<Expression> arguments = new ArrayList<>();
            if (!at(")")) {
                arguments.add(expression(deep));
                while (at(",")) {
                    must(',');
                    arguments.add(expression(deep));
                }
            }
            must(')');
            Expression call = new Expression('c', function, arguments);
            calls.add(call);
            return call;
        }
    }
}
