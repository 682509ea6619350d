import java.util.Arrays;

/** A small programming language, translated and run, and a desk that stops it and looks at it. */
public final class StopDesk {
    /** Nothing there, or refused by the call itself. */
    public static final int NONE = -1;

    private static final int MOST_CHARACTERS = 150;
    private static final int FIRST_CHARACTER = 32;
    private static final int LAST_CHARACTER = 126;
    private static final int MOST_LINES = 40;
    private static final int MOST_BLOCKS = 6;
    private static final int MOST_BRACKETS = 5;
    private static final int MOST_DIGITS = 3;
    private static final int MOST_PARAMETERS = 3;
    private static final int FUNCTIONS = 4;
    private static final int VARIABLES = 6;
    private static final int CAUGHT = 4;
    private static final int MOST_FRAMES = 6;
    private static final int KEPT = 16;
    private static final int MOST_PASSES = 50;
    private static final int MOST_PASSES_ASIDE = 100;
    private static final int DIVIDED_BY_ZERO = 1001;
    private static final int TOO_MANY_FRAMES = 1002;
    private static final String OPERATORS = "+-*/<=";
    private static final String BEFORE_EXPRESSION = "!^#?@";

    // A frame holds at most 17 values: one, and three for each of five brackets, and the newest.
    private static final int MOST_VALUES = MOST_FRAMES * 20;
    // Far above what lies between two points: no instruction is met twice in a frame without one.
    private static final int MOST_INSTRUCTIONS = 100000;

    private static final int UNSTARTED = 0;
    private static final int WAITING = 1;
    private static final int OVER = 2;
    private static final int DEAD = 3;

    private static final int PASSED_ALL = 0;
    private static final int STOPPED = 1;
    private static final int STEPPED = 2;
    private static final int THREW = 3;
    private static final int ENDED = 4;
    private static final int DIED = 5;

    private static final int STEP_INTO = 1;
    private static final int STEP_OVER = 2;
    private static final int STEP_OUT = 3;

    private static final int FAILED_BY_THROW = -2;
    private static final int FAILED_BY_POINTS = -3;

    // An instruction is one int: its operand, then its operation in the lowest four bits.
    private static final int OPERATION_BITS = 4;
    private static final int OPERATION_MASK = 15;
    private static final int RETURN = 0;
    private static final int NUMBER = 1;
    private static final int VARIABLE = 2;
    private static final int OPERATE = 3;
    private static final int CALL = 4;
    private static final int POINT = 5;
    private static final int STORE = 6;
    private static final int PUT = 7;
    private static final int THROW = 8;
    private static final int JUMP_IF_ZERO = 9;
    private static final int JUMP = 10;

    private final Text text;
    private final Translator translator;
    private final Machine machine;
    private final Machine aside;
    private final Tail notes;
    private final Break[] breaks;
    private Program program;
    private boolean watching;
    private int worked;

    public StopDesk() {
        text = new Text();
        translator = new Translator();
        machine = new Machine();
        aside = new Machine();
        notes = new Tail();
        breaks = new Break[MOST_LINES];
    }

    public boolean write(char c) {
        return text.append(c);
    }

    public int load() {
        Program read = translator.readProgram(text);
        text.clear();
        if (read == null) {
            return NONE;
        }
        program = read;
        machine.forget();
        notes.clear();
        for (int i = 0; i < MOST_LINES; i++) {
            breaks[i] = null;
        }
        watching = false;
        worked = 0;
        return program.lines;
    }

    public int start() {
        if (program == null) {
            return NONE;
        }
        notes.clear();
        for (int i = 0; i < MOST_LINES; i++) {
            if (breaks[i] != null) {
                breaks[i].count = 0;
            }
        }
        machine.begin(program);
        return machine.state;
    }

    public int state() {
        return machine.state;
    }

    public int result() {
        return machine.result;
    }

    public boolean stop(int line, int ignore, boolean log) {
        boolean bare = text.length == 0;
        Code condition = bare ? null : translator.readAside(text, program);
        text.clear();
        if (!hasLine(line) || ignore < 0 || (condition == null && !bare)) {
            return false;
        }
        breaks[line] = new Break(condition, ignore, log);
        return true;
    }

    public int unstop(int line) {
        if (!hasLine(line) || breaks[line] == null) {
            return NONE;
        }
        int count = breaks[line].count;
        breaks[line] = null;
        return count;
    }

    public int hits(int line) {
        return hasLine(line) && breaks[line] != null ? breaks[line].count : NONE;
    }

    public void watch(boolean on) {
        watching = on;
    }

    public int go(int kind, int n) {
        if (kind < 0 || kind > STEP_OUT || n < 1 || n > MOST_PASSES || machine.state != WAITING) {
            return NONE;
        }
        int before = machine.depth;
        int answer = PASSED_ALL;
        for (int i = 0; i < n && answer == PASSED_ALL; i++) {
            machine.pass();
            boolean stops = breakStops();
            answer = answerAfterPass(kind, before, stops);
        }
        return answer;
    }

    public int points() {
        return machine.passed;
    }

    public int depth() {
        return machine.depth;
    }

    public int line(int frame) {
        Frame found = machine.frameBelowTop(frame);
        return found == null ? NONE : found.line;
    }

    public int function(int frame) {
        Frame found = machine.frameBelowTop(frame);
        return found == null ? NONE : found.function;
    }

    public int variable(int frame, int v) {
        Frame found = machine.frameBelowTop(frame);
        return found == null ? 0 : found.read(v);
    }

    public boolean set(int frame, int v, int value) {
        Frame found = machine.frameBelowTop(frame);
        return found != null && found.assign(v, value);
    }

    public int evaluate(int frame) {
        Frame found = machine.frameBelowTop(frame);
        Code expression = found == null ? null : translator.readAside(text, program);
        text.clear();
        if (found == null || expression == null) {
            return NONE;
        }
        aside.workOut(program, found, expression);
        if (aside.state == OVER) {
            worked = aside.result;
            return 0;
        }
        return aside.state == DEAD ? FAILED_BY_THROW : FAILED_BY_POINTS;
    }

    public int value() {
        return worked;
    }

    public int output(int k) {
        return machine.output.before(k);
    }

    public int note(int k) {
        return notes.before(k);
    }

    private boolean hasLine(int line) {
        return program != null && line >= 0 && line < program.lines;
    }

    private int answerAfterPass(int kind, int before, boolean stops) {
        if (machine.state == DEAD) {
            return DIED;
        }
        if (machine.state == OVER) {
            return ENDED;
        }
        if (watching && machine.thrown) {
            return THREW;
        }
        if (stops) {
            return STOPPED;
        }
        return isStepDone(kind, before) ? STEPPED : PASSED_ALL;
    }

    private boolean isStepDone(int kind, int before) {
        return kind == STEP_INTO
            || (kind == STEP_OVER && machine.depth <= before)
            || (kind == STEP_OUT && machine.depth < before);
    }

    // There is no top frame, and so no break, when the pass has ended the run.
    private boolean breakStops() {
        Frame top = machine.frameBelowTop(0);
        Break here = top == null || !hasLine(top.line) ? null : breaks[top.line];
        if (here == null) {
            return false;
        }
        int outcome = 0;
        if (here.condition != null) {
            aside.workOut(program, top, here.condition);
            outcome = aside.result;
            if (aside.state != OVER || outcome == 0) {
                return false;
            }
        }
        here.count++;
        if (here.count <= here.ignore) {
            return false;
        }
        if (here.log) {
            notes.add(outcome);
        }
        return !here.log;
    }

    /** The text that the next taking call uses. */
    private static final class Text {
        final char[] characters;
        int length;

        Text() {
            characters = new char[MOST_CHARACTERS];
        }

        boolean append(char c) {
            if (length >= MOST_CHARACTERS || c < FIRST_CHARACTER || c > LAST_CHARACTER) {
                return false;
            }
            characters[length] = c;
            length++;
            return true;
        }

        void clear() {
            length = 0;
        }
    }

    /** The latest values of a row that only grows, and how many there were. */
    private static final class Tail {
        final int[] latest;
        int count;

        Tail() {
            latest = new int[KEPT];
        }

        void add(int added) {
            latest[count & (KEPT - 1)] = added;
            count++;
        }

        void clear() {
            count = 0;
        }

        int before(int k) {
            if (k == NONE) {
                return count;
            }
            if (k < 0 || k >= KEPT || k >= count) {
                return 0;
            }
            return latest[(count - 1 - k) & (KEPT - 1)];
        }
    }

    /** What stands at a line to stop there or to note something. */
    private static final class Break {
        final Code condition;
        final int ignore;
        final boolean log;
        int count;

        Break(Code condition, int ignore, boolean log) {
            this.condition = condition;
            this.ignore = ignore;
            this.log = log;
        }
    }

    /** Instructions, and for each where what it throws is caught in its own frame, NONE if nowhere. */
    private static final class Code {
        final int[] instructions;
        final int[] handlers;
        final int size;

        Code(int[] instructions, int[] handlers, int size) {
            this.instructions = Arrays.copyOf(instructions, size);
            this.handlers = Arrays.copyOf(handlers, size);
            this.size = size;
        }
    }

    /** A translated program; a function that is not there has NONE parameters. */
    private static final class Program {
        final Code code;
        final int[] starts;
        final int[] parameters;
        final int lines;

        Program(Code code, int[] starts, int[] parameters, int lines) {
            this.code = code;
            this.starts = Arrays.copyOf(starts, FUNCTIONS);
            this.parameters = Arrays.copyOf(parameters, FUNCTIONS);
            this.lines = lines;
        }
    }

    /** Reads the text once from the left to the right and writes instructions on the way. */
    private static final class Translator {
        private final int[] instructions;
        private final int[] handlers;
        private final int[] starts;
        private final int[] parameters;
        private final int[] arguments;
        private char[] characters;
        private int length;
        private int at;
        private int size;
        private int lines;

        Translator() {
            // Nothing is translated to more instructions than it has characters, but for the end of an expression.
            instructions = new int[MOST_CHARACTERS + 1];
            handlers = new int[MOST_CHARACTERS + 1];
            starts = new int[FUNCTIONS];
            parameters = new int[FUNCTIONS];
            arguments = new int[FUNCTIONS];
        }

        /** The text as a program; null if it is none. */
        Program readProgram(Text taken) {
            beginReading(taken);
            Arrays.fill(parameters, NONE);
            for (int i = 0; i < FUNCTIONS && at < length; i++) {
                if (!readFunction()) {
                    return null;
                }
            }
            if (at != length || parameters[0] != 0 || !callsFit(parameters)) {
                return null;
            }
            return new Program(new Code(instructions, handlers, size), starts, parameters, lines);
        }

        /** The text as an expression that a program's functions fit; null if it is none. */
        Code readAside(Text taken, Program program) {
            if (program == null) {
                return null;
            }
            beginReading(taken);
            if (!readExpression(0) || at != length || !callsFit(program.parameters)) {
                return null;
            }
            emit(RETURN, 0);
            return new Code(instructions, handlers, size);
        }

        private void beginReading(Text taken) {
            characters = taken.characters;
            length = taken.length;
            at = 0;
            size = 0;
            lines = 0;
            Arrays.fill(arguments, NONE);
        }

        // A called function may stand later, so how it is called is kept and compared at the end.
        private boolean callsFit(int[] wanted) {
            for (int i = 0; i < FUNCTIONS; i++) {
                if (arguments[i] != NONE && arguments[i] != wanted[i]) {
                    return false;
                }
            }
            return true;
        }

        private boolean readFunction() {
            int function = peek() - 'A';
            at++;
            int count = peek() - '0';
            at++;
            if (function < 0 || function >= FUNCTIONS || parameters[function] != NONE) {
                return false;
            }
            if (count < 0 || count > MOST_PARAMETERS) {
                return false;
            }
            parameters[function] = count;
            starts[function] = size;
            if (!readBlock(1)) {
                return false;
            }
            emit(NUMBER, 0);
            emit(RETURN, 0);
            return true;
        }

        private boolean readBlock(int deep) {
            if (deep > MOST_BLOCKS || !takes('{')) {
                return false;
            }
            for (int i = 0; i <= MOST_LINES; i++) {
                if (takes('}')) {
                    return true;
                }
                if (!readStatement(deep)) {
                    return false;
                }
            }
            return false;
        }

        private boolean readStatement(int deep) {
            if (lines >= MOST_LINES) {
                return false;
            }
            char first = peek();
            at++;
            int point = size;
            emit(POINT, lines);
            lines++;
            if (first == '~') {
                return readTry(deep);
            }
            boolean begun = isVariable(first) ? takes('=') : BEFORE_EXPRESSION.indexOf(first) >= 0;
            if (!begun || !readExpression(0)) {
                return false;
            }
            if (first == '?' || first == '@') {
                return readGuarded(deep, first == '@', point);
            }
            emitEnd(first);
            return takes(';');
        }

        private void emitEnd(int first) {
            switch (first) {
                case '!':
                    emit(PUT, 0);
                    break;
                case '^':
                    emit(RETURN, 0);
                    break;
                case '#':
                    emit(THROW, 0);
                    break;
                default:
                    emit(STORE, first - 'a');
                    break;
            }
        }

        private boolean readGuarded(int deep, boolean again, int point) {
            int jump = size;
            emit(JUMP_IF_ZERO, 0);
            if (!readBlock(deep + 1)) {
                return false;
            }
            if (again) {
                emit(JUMP, point);
            }
            aimHere(jump);
            return true;
        }

        private boolean readTry(int deep) {
            int first = size;
            if (!readBlock(deep + 1)) {
                return false;
            }
            int jump = size;
            emit(JUMP, 0);
            catchHere(first, jump);
            if (!readBlock(deep + 1)) {
                return false;
            }
            aimHere(jump);
            return true;
        }

        // What an inner try catches has its handler already and keeps it.
        private void catchHere(int from, int end) {
            for (int i = from; i < end; i++) {
                if (handlers[i] == NONE) {
                    handlers[i] = size;
                }
            }
        }

        private void aimHere(int jump) {
            if (jump < size) {
                instructions[jump] = (instructions[jump] & OPERATION_MASK) | (size << OPERATION_BITS);
            }
        }

        private boolean readExpression(int brackets) {
            if (!readTerm(brackets)) {
                return false;
            }
            for (int i = 0; i < MOST_CHARACTERS; i++) {
                char operator = peek();
                if (OPERATORS.indexOf(operator) < 0) {
                    return true;
                }
                at++;
                if (!readTerm(brackets)) {
                    return false;
                }
                emit(OPERATE, operator);
            }
            return false;
        }

        private boolean readTerm(int brackets) {
            char first = peek();
            if (isDigit(first)) {
                readNumber();
                return true;
            }
            at++;
            if (isVariable(first)) {
                emit(VARIABLE, first - 'a');
                return true;
            }
            if (first >= 'A' && first < 'A' + FUNCTIONS) {
                return brackets < MOST_BRACKETS && takes('(') && readArguments(first - 'A', brackets + 1);
            }
            return first == '(' && brackets < MOST_BRACKETS && readExpression(brackets + 1) && takes(')');
        }

        // A fourth digit stays unread: nothing that may follow a number begins with one.
        private void readNumber() {
            int number = 0;
            for (int i = 0; i < MOST_DIGITS && isDigit(peek()); i++) {
                number = number * 10 + (peek() - '0');
                at++;
            }
            emit(NUMBER, number);
        }

        private boolean readArguments(int function, int brackets) {
            int count = 0;
            boolean more = !takes(')');
            while (more && count < MOST_PARAMETERS) {
                if (!readExpression(brackets)) {
                    return false;
                }
                count++;
                more = takes(',');
                if (!more && !takes(')')) {
                    return false;
                }
            }
            if (more || (arguments[function] != NONE && arguments[function] != count)) {
                return false;
            }
            arguments[function] = count;
            emit(CALL, function);
            return true;
        }

        private void emit(int operation, int operand) {
            if (size < instructions.length) {
                instructions[size] = (operand << OPERATION_BITS) | operation;
                handlers[size] = NONE;
                size++;
            }
        }

        private char peek() {
            return at < length ? characters[at] : 0;
        }

        private boolean takes(char wanted) {
            if (at >= length || characters[at] != wanted) {
                return false;
            }
            at++;
            return true;
        }

        private static boolean isDigit(char c) {
            return c >= '0' && c <= '9';
        }

        private static boolean isVariable(char c) {
            return c >= 'a' && c < 'a' + VARIABLES;
        }
    }

    /** A function that is being run, or an expression that is worked out aside. */
    private static final class Frame {
        final int[] variables;
        Code code;
        int next;
        int bottom;
        int function;
        int line;

        Frame() {
            variables = new int[VARIABLES];
        }

        int fetch() {
            int instruction = next >= 0 && next < code.size ? code.instructions[next] : RETURN;
            next++;
            return instruction;
        }

        int read(int v) {
            return v >= 0 && v < VARIABLES ? variables[v] : 0;
        }

        boolean assign(int v, int assigned) {
            if (v < 0 || v >= VARIABLES) {
                return false;
            }
            variables[v] = assigned;
            return true;
        }
    }

    /** Runs a program, or an expression aside, from point to point. */
    private static final class Machine {
        final Frame[] frames;
        final int[] values;
        final Tail output;
        Program program;
        int state;
        int result;
        int depth;
        int height;
        int passed;
        boolean thrown;

        Machine() {
            frames = new Frame[MOST_FRAMES];
            for (int i = 0; i < MOST_FRAMES; i++) {
                frames[i] = new Frame();
            }
            values = new int[MOST_VALUES];
            output = new Tail();
        }

        void forget() {
            state = UNSTARTED;
            result = 0;
            depth = 0;
            height = 0;
            passed = 0;
            output.clear();
        }

        void begin(Program begun) {
            forget();
            program = begun;
            enter(0);
            runOn();
        }

        void pass() {
            passed++;
            runOn();
        }

        /** Leaves OVER with the value, DEAD if something was thrown, WAITING if there were too many points. */
        void workOut(Program around, Frame original, Code expression) {
            forget();
            program = around;
            Frame lowest = frames[0];
            System.arraycopy(original.variables, 0, lowest.variables, 0, VARIABLES);
            lowest.code = expression;
            lowest.next = 0;
            depth = 1;
            runOn();
            for (int i = 0; i < MOST_PASSES_ASIDE && state == WAITING; i++) {
                runOn();
            }
        }

        Frame frameBelowTop(int below) {
            return below >= 0 && below < depth ? frames[depth - 1 - below] : null;
        }

        private void runOn() {
            thrown = false;
            boolean on = true;
            for (int i = 0; on && depth > 0 && i < MOST_INSTRUCTIONS; i++) {
                Frame top = frames[depth - 1];
                int instruction = top.fetch();
                on = execute(top, instruction & OPERATION_MASK, instruction >> OPERATION_BITS);
            }
        }

        /** Whether to run on: not from a point, nor when running is over or dead. */
        private boolean execute(Frame top, int operation, int operand) {
            switch (operation) {
                case NUMBER:
                    push(operand);
                    return true;
                case VARIABLE:
                    push(top.read(operand));
                    return true;
                case OPERATE:
                    return operate(operand);
                case CALL:
                    if (depth >= MOST_FRAMES) {
                        return throwOut(TOO_MANY_FRAMES);
                    }
                    enter(operand);
                    return true;
                case POINT:
                    top.line = operand;
                    state = WAITING;
                    return false;
                case STORE:
                    top.assign(operand, pop());
                    return true;
                case PUT:
                    output.add(pop());
                    return true;
                case THROW:
                    return throwOut(pop());
                case JUMP_IF_ZERO:
                    if (pop() == 0) {
                        top.next = operand;
                    }
                    return true;
                case JUMP:
                    top.next = operand;
                    return true;
                default:
                    return leave(pop());
            }
        }

        private boolean operate(int operator) {
            int right = pop();
            int left = pop();
            switch (operator) {
                case '+':
                    push(left + right);
                    return true;
                case '-':
                    push(left - right);
                    return true;
                case '*':
                    push(left * right);
                    return true;
                case '/':
                    if (right == 0) {
                        return throwOut(DIVIDED_BY_ZERO);
                    }
                    push(left / right);
                    return true;
                case '<':
                    push(left < right ? 1 : 0);
                    return true;
                default:
                    push(left == right ? 1 : 0);
                    return true;
            }
        }

        private void enter(int function) {
            Frame entered = frames[depth];
            Arrays.fill(entered.variables, 0);
            for (int i = program.parameters[function] - 1; i >= 0; i--) {
                entered.variables[i] = pop();
            }
            entered.code = program.code;
            entered.next = program.starts[function];
            entered.bottom = height;
            entered.function = function;
            depth++;
        }

        private boolean leave(int returned) {
            depth--;
            if (depth == 0) {
                state = OVER;
                result = returned;
                return false;
            }
            push(returned);
            return true;
        }

        private boolean throwOut(int what) {
            thrown = true;
            for (int i = depth - 1; i >= 0; i--) {
                Frame frame = frames[i];
                // A frame has gone on behind the instruction that throws, or that calls the frame above.
                int from = frame.next - 1;
                int handler = from >= 0 && from < frame.code.size ? frame.code.handlers[from] : NONE;
                if (handler != NONE) {
                    depth = i + 1;
                    height = frame.bottom;
                    frame.variables[CAUGHT] = what;
                    frame.next = handler;
                    return true;
                }
            }
            depth = 0;
            state = DEAD;
            result = what;
            return false;
        }

        private void push(int pushed) {
            if (height < MOST_VALUES) {
                values[height] = pushed;
                height++;
            }
        }

        private int pop() {
            if (height <= 0) {
                return 0;
            }
            height--;
            return values[height];
        }
    }
}
