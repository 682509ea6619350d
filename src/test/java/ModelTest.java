/** Drawn runs of calls, the same every time, with each answer compared with that of DeskModel. */
public final class ModelTest {
    private static final int[] EDGES = {-1, 0, 1, 5, 6, 40, 51, Integer.MAX_VALUE, Integer.MIN_VALUE};

    private final Draw draw;
    private final StopDesk desk = new StopDesk();
    private final DeskModel model = new DeskModel();
    private final StringBuilder calls = new StringBuilder();
    private final int[] parameters = new int[4];
    private int lines = 0;
    private boolean wrong = false;

    private ModelTest(int seed) {
        draw = new Draw(seed);
    }

    public static void main(String[] args) {
        int first = args.length > 0 ? Integer.parseInt(args[0]) : 1;
        int runs = args.length > 1 ? Integer.parseInt(args[1]) : 3000;
        int wrong = 0;
        for (int seed = first; seed < first + runs && wrong < 3; seed++) {
            ModelTest run = new ModelTest(seed);
            run.play();
            if (run.wrong) {
                wrong++;
                System.out.println("seed " + seed + ":" + run.calls);
            }
        }
        System.out.println(runs + " runs, " + wrong + " not as the model");
        if (wrong != 0) {
            System.exit(1);
        }
    }

    private void play() {
        loadSomething();
        for (int i = 0; i < 25 && !wrong; i++) {
            callSomething();
            lookAtAll();
        }
    }

    private void due(String call, int got, int want) {
        if (got != want && !wrong) {
            wrong = true;
            calls.append("\n  ").append(call).append(" answered ").append(got).append(", the model ").append(want);
        }
    }

    private void due(String call, boolean got, boolean want) {
        due(call, got ? 1 : 0, want ? 1 : 0);
    }

    private void called(String call) {
        calls.append("\n  ").append(call);
    }

    private void type(String text) {
        called("write " + text);
        for (int i = 0; i < text.length(); i++) {
            due("write", desk.write(text.charAt(i)), model.write(text.charAt(i)));
        }
    }

    private void loadSomething() {
        int[] before = parameters.clone();
        String program = new Writer(draw, parameters).program();
        if (draw.oneIn(6)) {
            program = spoiled(program);
        }
        type(program);
        called("load");
        int answer = desk.load();
        due("load", answer, model.load());
        if (answer >= 0) {
            lines = answer;
        } else {
            System.arraycopy(before, 0, parameters, 0, 4);
        }
        if (!draw.oneIn(10)) {
            called("start");
            due("start", desk.start(), model.start());
        }
    }

    private String spoiled(String text) {
        StringBuilder spoiled = new StringBuilder(text);
        int at = draw.below(text.length() + 1);
        String some = "ABCDabcdefg0123456789+-*/<=(){};,!^#?@~ ";
        char c = some.charAt(draw.below(some.length()));
        if (draw.oneIn(2) || at == text.length()) {
            spoiled.insert(at, c);
        } else if (draw.oneIn(2)) {
            spoiled.setCharAt(at, c);
        } else {
            spoiled.deleteCharAt(at);
        }
        return spoiled.toString();
    }

    private int numberOrEdge(int below) {
        return draw.oneIn(25) ? EDGES[draw.below(EDGES.length)] : draw.below(Math.max(1, below));
    }

    private String condition() {
        String written = new Writer(draw, parameters).expression(draw.oneIn(15) ? 7 : 3);
        return draw.oneIn(20) ? spoiled(written) : written;
    }

    private void callSomething() {
        if (desk.state() != 1 && !draw.oneIn(4)) {
            startOrLoad();
            return;
        }
        int kind = draw.below(40);
        if (kind < 17) {
            int step = numberOrEdge(4);
            int n = draw.oneIn(3) ? numberOrEdge(51) : draw.below(6) + 1;
            called("go(" + step + ", " + n + ")");
            due("go", desk.go(step, n), model.go(step, n));
        } else if (kind < 24) {
            int line = numberOrEdge(lines);
            int ignore = draw.oneIn(2) ? 0 : numberOrEdge(4);
            boolean log = draw.oneIn(2);
            type(draw.oneIn(3) ? "" : condition());
            called("stop(" + line + ", " + ignore + ", " + log + ")");
            due("stop", desk.stop(line, ignore, log), model.stop(line, ignore, log));
        } else if (kind < 26) {
            int line = numberOrEdge(lines);
            called("unstop(" + line + ")");
            due("unstop", desk.unstop(line), model.unstop(line));
        } else if (kind < 32) {
            int frame = numberOrEdge(desk.depth());
            type(condition());
            called("evaluate(" + frame + ")");
            due("evaluate", desk.evaluate(frame), model.evaluate(frame));
        } else if (kind < 36) {
            int frame = numberOrEdge(desk.depth());
            int v = numberOrEdge(6);
            int value = draw.oneIn(4) ? EDGES[draw.below(EDGES.length)] : draw.below(9);
            called("set(" + frame + ", " + v + ", " + value + ")");
            due("set", desk.set(frame, v, value), model.set(frame, v, value));
        } else if (kind < 38) {
            boolean on = draw.oneIn(2);
            called("watch(" + on + ")");
            desk.watch(on);
            model.watch(on);
        } else {
            startOrLoad();
        }
    }

    private void startOrLoad() {
        if (draw.oneIn(4)) {
            loadSomething();
            return;
        }
        called("start");
        due("start", desk.start(), model.start());
    }

    private void lookAtAll() {
        due("state", desk.state(), model.state());
        due("result", desk.result(), model.result());
        due("points", desk.points(), model.points());
        due("depth", desk.depth(), model.depth());
        due("value", desk.value(), model.value());
        for (int frame = -1; frame < 7; frame++) {
            due("line " + frame, desk.line(frame), model.line(frame));
            due("function " + frame, desk.function(frame), model.function(frame));
            for (int v = -1; v < 7; v++) {
                due("variable " + frame + " " + v, desk.variable(frame, v), model.variable(frame, v));
            }
        }
        for (int k = -2; k < 18; k++) {
            due("output " + k, desk.output(k), model.output(k));
            due("note " + k, desk.note(k), model.note(k));
        }
        for (int line = -1; line <= 40; line++) {
            due("hits " + line, desk.hits(line), model.hits(line));
        }
    }

    /** Numbers that look drawn by lot and are the same for the same seed. */
    private static final class Draw {
        private long state;

        Draw(int seed) {
            state = seed * 0x9E3779B97F4A7C15L;
        }

        int below(int bound) {
            state = state * 6364136223846793005L + 1442695040888963407L;
            return (int) ((state >>> 33) % bound);
        }

        boolean oneIn(int many) {
            return below(many) == 0;
        }
    }

    /** Writes programs that mostly do something: loops that count, calls that fit, tries that catch. */
    private static final class Writer {
        private final Draw draw;
        private final int[] parameters;
        private final StringBuilder text = new StringBuilder();

        Writer(Draw draw, int[] parameters) {
            this.draw = draw;
            this.parameters = parameters;
        }

        String program() {
            int functions = 1 + draw.below(4);
            for (int i = 0; i < 4; i++) {
                parameters[i] = i < functions ? i == 0 ? 0 : draw.below(4) : -1;
            }
            int room = 130 / functions;
            int first = draw.below(functions);
            for (int i = 0; i < functions; i++) {
                int function = (first + i) % functions;
                text.append((char) ('A' + function)).append(parameters[function]);
                block(1, Math.min(text.length() + room, 140));
            }
            return text.toString();
        }

        private void block(int deep, int end) {
            text.append('{');
            while (text.length() < end - 8 && !draw.oneIn(deep == 1 ? 15 : 4)) {
                statement(deep, end);
            }
            text.append('}');
        }

        private void statement(int deep, int end) {
            int kind = draw.below(20);
            if (kind < 4 && deep < 6 || kind == 4 && draw.oneIn(20)) {
                text.append('~');
                block(deep + 1, end - 4);
                block(deep + 1, end);
            } else if (kind < 8 && deep < 6) {
                text.append(draw.oneIn(2) ? '?' : '@');
                expressionInto(1);
                block(deep + 1, end);
            } else if (kind < 10) {
                text.append('!');
                expressionInto(2);
                text.append(';');
            } else if (kind < 12) {
                text.append(draw.oneIn(2) ? '#' : '^');
                expressionInto(1);
                text.append(';');
            } else {
                text.append((char) ('a' + draw.below(6))).append('=');
                expressionInto(2);
                text.append(';');
            }
        }

        String expression(int deep) {
            expressionInto(deep);
            return text.toString();
        }

        private void expressionInto(int deep) {
            term(deep);
            while (draw.oneIn(2) && text.length() < 130) {
                text.append("+-*/<=+-".charAt(draw.below(8)));
                term(deep);
            }
        }

        private void term(int deep) {
            int kind = draw.below(12);
            int function = draw.below(4);
            if (deep > 0 && kind < 4 && (parameters[function] >= 0 || draw.oneIn(60))) {
                text.append((char) ('A' + function)).append('(');
                int count = draw.oneIn(150) ? draw.below(4) : parameters[function];
                for (int i = 0; i < count; i++) {
                    text.append(i == 0 ? "" : ",");
                    expressionInto(deep - 1);
                }
                text.append(')');
            } else if (deep > 0 && kind < 5) {
                text.append('(');
                expressionInto(deep - 1);
                text.append(')');
            } else if (kind < 9) {
                text.append((char) ('a' + draw.below(6)));
            } else {
                text.append(draw.oneIn(9) ? draw.below(1000) : draw.below(4));
            }
        }
    }
}
