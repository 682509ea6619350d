/** What the tests share: calls compared with the answers that are due, and texts written by the character. */
final class Checks {
    private int asked = 0;
    private int wrong = 0;

    void due(String call, long got, long want) {
        asked++;
        if (got != want) {
            wrong++;
            System.out.println(call + " answered " + got + ", due is " + want);
        }
    }

    void due(String call, boolean got, boolean want) {
        due(call, got ? 1 : 0, want ? 1 : 0);
    }

    void due(String call, String got, String want) {
        asked++;
        if (!got.equals(want)) {
            wrong++;
            System.out.println(call + " answered " + got + ", due is " + want);
        }
    }

    /** Ends the test: exit code 1 if an answer was wrong. */
    void end() {
        System.out.println(asked + " answers, " + wrong + " not as due");
        if (wrong != 0 || asked == 0) {
            System.exit(1);
        }
    }

    static void type(StopDesk desk, String text) {
        for (int i = 0; i < text.length(); i++) {
            if (!desk.write(text.charAt(i))) {
                throw new IllegalArgumentException("not written: " + text);
            }
        }
    }

    static int load(StopDesk desk, String program) {
        type(desk, program);
        return desk.load();
    }

    static StopDesk loaded(String program) {
        StopDesk desk = new StopDesk();
        if (load(desk, program) < 0) {
            throw new IllegalArgumentException("no program: " + program);
        }
        return desk;
    }

    static StopDesk started(String program) {
        StopDesk desk = loaded(program);
        desk.start();
        return desk;
    }

    static boolean stop(StopDesk desk, int line, String condition, int ignore, boolean log) {
        type(desk, condition);
        return desk.stop(line, ignore, log);
    }

    static int evaluate(StopDesk desk, int frame, String expression) {
        type(desk, expression);
        return desk.evaluate(frame);
    }

    /** Passes points until running is over or dead; the guard ends what would not end. */
    static int runOut(StopDesk desk) {
        int answer = 0;
        for (int i = 0; i < 100 && answer >= 0 && answer < 4; i++) {
            answer = desk.go(0, 50);
        }
        return answer;
    }

    /** All that can be seen of a desk without changing it, in some 140 calls. */
    static String seen(StopDesk desk) {
        StringBuilder all = new StringBuilder();
        all.append(desk.state()).append(' ').append(desk.result()).append(' ').append(desk.points());
        all.append(' ').append(desk.depth()).append(' ').append(desk.value());
        for (int frame = 0; frame < 6; frame++) {
            all.append("\nframe ").append(desk.line(frame)).append(' ').append(desk.function(frame));
            for (int v = 0; v < 6; v++) {
                all.append(' ').append(desk.variable(frame, v));
            }
        }
        all.append("\nhits");
        for (int line = 0; line < 40; line++) {
            all.append(' ').append(desk.hits(line));
        }
        all.append("\nput and noted");
        for (int k = -1; k < 16; k++) {
            all.append(' ').append(desk.output(k)).append(' ').append(desk.note(k));
        }
        return all.toString();
    }

    static String repeat(String part, int times) {
        StringBuilder whole = new StringBuilder();
        for (int i = 0; i < times; i++) {
            whole.append(part);
        }
        return whole.toString();
    }
}
