/** Promises 10 and 11: watch and go. */
public final class StepTest {
    private static final String CALLING = "A0{a=B(2);!a;}B1{?a{b=B(a-1);}^b+1;}";

    private static final Checks checks = new Checks();

    public static void main(String[] args) {
        goRefuses();
        goPassesUpToN();
        stepsIntoStopAlways();
        stepsOverStayInTheFrame();
        stepsOutLeaveTheFrame();
        stepsMayRunOutOfPoints();
        overAndDeadAreToldFirst();
        throwsAreWatched();
        throwsAreToldBeforeBreaks();
        breaksAreToldBeforeSteps();
        whatIsThrownAsideIsNotWatched();
        watchHoldsFromNowOn();
        checks.end();
    }

    private static void goRefuses() {
        StopDesk desk = Checks.loaded(CALLING);
        checks.due("not started", desk.go(0, 1), -1);
        desk.start();
        checks.due("kind -1", desk.go(-1, 1), -1);
        checks.due("kind 4", desk.go(4, 1), -1);
        checks.due("kind MAX", desk.go(Integer.MAX_VALUE, 1), -1);
        checks.due("kind MIN", desk.go(Integer.MIN_VALUE, 1), -1);
        checks.due("n 0", desk.go(0, 0), -1);
        checks.due("n -1", desk.go(1, -1), -1);
        checks.due("n 51", desk.go(2, 51), -1);
        checks.due("n MAX", desk.go(3, Integer.MAX_VALUE), -1);
        checks.due("n MIN", desk.go(3, Integer.MIN_VALUE), -1);
        checks.due("nothing was passed", desk.points(), 0);
        checks.due("n 50", desk.go(0, 50), 4);
        checks.due("over", desk.go(0, 1), -1);
        StopDesk dead = Checks.started("A0{#1;}");
        dead.go(0, 1);
        checks.due("dead", dead.go(0, 1), -1);
    }

    private static void goPassesUpToN() {
        StopDesk desk = Checks.started("A0{@1{a=a+1;}}");
        checks.due("go(0, 1)", desk.go(0, 1), 0);
        checks.due("points", desk.points(), 1);
        checks.due("go(0, 7)", desk.go(0, 7), 0);
        checks.due("points", desk.points(), 8);
        checks.due("go(0, 50)", desk.go(0, 50), 0);
        checks.due("points", desk.points(), 58);
        checks.due("a", desk.variable(0, 0), 29);
    }

    private static void stepsIntoStopAlways() {
        StopDesk desk = Checks.started(CALLING);
        int[] depths = {2, 2, 3, 3, 4, 4, 3, 2, 1};
        int[] lines = {2, 3, 2, 3, 2, 4, 4, 4, 1};
        for (int i = 0; i < depths.length; i++) {
            checks.due("step " + i, desk.go(1, 50), 2);
            checks.due("depth " + i, desk.depth(), depths[i]);
            checks.due("line " + i, desk.line(0), lines[i]);
        }
        checks.due("the last step", desk.go(1, 50), 4);
        checks.due("output", desk.output(0), 3);
    }

    private static void stepsOverStayInTheFrame() {
        StopDesk desk = Checks.started(CALLING);
        checks.due("over the call", desk.go(2, 50), 2);
        checks.due("line", desk.line(0), 1);
        checks.due("depth", desk.depth(), 1);
        checks.due("a", desk.variable(0, 0), 3);
        checks.due("points", desk.points(), 9);
        desk.start();
        desk.go(0, 2);
        checks.due("line in B", desk.line(0), 3);
        checks.due("over the inner call", desk.go(2, 50), 2);
        checks.due("depth", desk.depth(), 2);
        checks.due("line", desk.line(0), 4);
        checks.due("over the return", desk.go(2, 50), 2);
        checks.due("depth", desk.depth(), 1);
        checks.due("over the end", desk.go(2, 50), 4);
        StopDesk throwing = Checks.started("A0{~{a=B();}{!e;}}B0{b=C();}C0{!1;#5;}");
        throwing.go(0, 3);
        checks.due("depth", throwing.depth(), 3);
        checks.due("over a put", throwing.go(2, 50), 2);
        checks.due("depth", throwing.depth(), 3);
        checks.due("over a throw", throwing.go(2, 50), 2);
        checks.due("depth", throwing.depth(), 1);
        checks.due("line", throwing.line(0), 2);
    }

    private static void stepsOutLeaveTheFrame() {
        StopDesk desk = Checks.started(CALLING);
        desk.go(0, 5);
        checks.due("depth", desk.depth(), 4);
        checks.due("out", desk.go(3, 50), 2);
        checks.due("depth", desk.depth(), 3);
        checks.due("line", desk.line(0), 4);
        checks.due("out", desk.go(3, 50), 2);
        checks.due("depth", desk.depth(), 2);
        checks.due("out", desk.go(3, 50), 2);
        checks.due("depth", desk.depth(), 1);
        checks.due("out of A", desk.go(3, 50), 4);
        StopDesk again = Checks.started("A0{!B()+B();!2;}B0{!1;}");
        again.go(0, 1);
        checks.due("in B", again.function(0), 1);
        checks.due("the next call is no step out", again.go(3, 50), 2);
        checks.due("line", again.line(0), 1);
        checks.due("points", again.points(), 3);
    }

    private static void stepsMayRunOutOfPoints() {
        StopDesk desk = Checks.started(CALLING);
        checks.due("over", desk.go(2, 8), 0);
        checks.due("points", desk.points(), 8);
        desk.start();
        checks.due("the last of n", desk.go(2, 9), 2);
        desk.start();
        desk.go(0, 1);
        checks.due("out", desk.go(3, 7), 0);
        desk.start();
        desk.go(0, 1);
        checks.due("out", desk.go(3, 8), 2);
        desk.start();
        checks.due("the frames before the first pass are meant", desk.go(2, 50), 2);
        checks.due("depth", desk.depth(), 1);
    }

    private static void overAndDeadAreToldFirst() {
        StopDesk desk = Checks.started("A0{~{#1;}{}}");
        desk.watch(true);
        desk.go(0, 1);
        checks.due("over, though something was thrown", desk.go(1, 1), 4);
        StopDesk dead = Checks.started("A0{#1;}");
        dead.watch(true);
        checks.due("dead", dead.go(1, 1), 5);
        checks.due("over as the last of n", Checks.started("A0{!1;}").go(0, 1), 4);
        checks.due("over by a step", Checks.started("A0{!1;}").go(3, 1), 4);
    }

    private static void throwsAreWatched() {
        StopDesk desk = Checks.started("A0{~{#5;}{!e;}~{a=1/0;}{!e;}~{a=B();}{!e;}}B0{a=B();}");
        desk.watch(true);
        checks.due("go", desk.go(0, 50), 3);
        checks.due("e", desk.variable(0, 4), 5);
        checks.due("line", desk.line(0), 2);
        checks.due("go", desk.go(0, 50), 3);
        checks.due("e", desk.variable(0, 4), 1001);
        checks.due("go", desk.go(0, 50), 3);
        checks.due("e", desk.variable(0, 4), 1002);
        checks.due("depth", desk.depth(), 1);
        checks.due("only in that pass", desk.go(0, 50), 4);
        StopDesk empty = Checks.started("A0{~{#5;}{}!1;}");
        empty.watch(true);
        checks.due("an empty second block", empty.go(0, 50), 3);
        checks.due("line", empty.line(0), 2);
        StopDesk inner = Checks.started("A0{a=1+B();!a;}B0{~{#5;}{}}");
        inner.watch(true);
        checks.due("caught in a call that ends", inner.go(0, 50), 3);
        checks.due("depth", inner.depth(), 1);
        checks.due("line", inner.line(0), 1);
    }

    private static void throwsAreToldBeforeBreaks() {
        StopDesk desk = Checks.started("A0{~{#5;}{!e;}}");
        desk.watch(true);
        desk.stop(2, 0, false);
        checks.due("go", desk.go(1, 1), 2);
        checks.due("go", desk.go(1, 1), 3);
        checks.due("hits count", desk.hits(2), 1);
        desk.start();
        Checks.stop(desk, 2, "e+1", 0, true);
        checks.due("go", desk.go(0, 50), 3);
        checks.due("notes count", desk.note(0), 6);
        checks.due("hits", desk.hits(2), 1);
        desk.start();
        desk.stop(2, 0, false);
        desk.watch(false);
        checks.due("not watched", desk.go(0, 50), 1);
    }

    private static void breaksAreToldBeforeSteps() {
        StopDesk desk = Checks.started(CALLING);
        desk.stop(2, 0, false);
        checks.due("into", desk.go(1, 50), 1);
        checks.due("over", desk.go(2, 50), 2);
        checks.due("into a break", desk.go(2, 50), 1);
        checks.due("depth", desk.depth(), 3);
        desk.unstop(2);
        desk.stop(1, 0, false);
        checks.due("out", desk.go(3, 50), 2);
        checks.due("out", desk.go(3, 50), 1);
        checks.due("depth", desk.depth(), 1);
        desk.start();
        Checks.stop(desk, 2, "", 0, true);
        checks.due("a log is no stop", desk.go(1, 1), 2);
    }

    private static void whatIsThrownAsideIsNotWatched() {
        StopDesk desk = Checks.started("A0{!1;!2;!3;}B0{~{#4;}{}^1;}");
        desk.watch(true);
        Checks.stop(desk, 1, "B()", 0, true);
        Checks.stop(desk, 2, "1/0", 0, false);
        checks.due("go", desk.go(0, 2), 0);
        checks.due("note", desk.note(0), 1);
        Checks.evaluate(desk, 0, "1/0");
        checks.due("go", desk.go(0, 1), 4);
    }

    private static void watchHoldsFromNowOn() {
        String program = "A0{~{#1;}{}~{#2;}{}~{#3;}{}!4;}";
        StopDesk desk = Checks.started(program);
        desk.watch(true);
        checks.due("on", desk.go(0, 50), 3);
        desk.watch(false);
        checks.due("off", desk.go(0, 2), 0);
        desk.watch(true);
        desk.watch(true);
        checks.due("on again", desk.go(0, 50), 3);
        checks.due("line", desk.line(0), 6);
        StopDesk early = new StopDesk();
        early.watch(true);
        Checks.load(early, program);
        early.start();
        checks.due("a load ends it", early.go(0, 50), 4);
        early.watch(true);
        early.start();
        checks.due("a start does not", early.go(0, 50), 3);
    }
}
