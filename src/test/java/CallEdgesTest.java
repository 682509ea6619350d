/**
 * The boundary cases that the promises 1 to 21 name with each call: each sentence by a test of its own, at the
 * boundary and beside it.
 */
public final class CallEdgesTest {
    private static final int MAX = Integer.MAX_VALUE;
    private static final int MIN = Integer.MIN_VALUE;
    private static final int[] FAR = {MIN, MIN + 1, -1000, 1000, 65536, MAX - 1, MAX};
    // How many are put out or noted: what is kept is 16, and begins anew in its row with 17 and 33.
    private static final int[] COUNTS = {0, 1, 2, 14, 15, 16, 17, 18, 31, 32, 33, 34, 48, 49};
    private static final String CALLING = "A0{a=B(2);!a;}B1{?a{b=B(a-1);}^b+1;}";

    private static final Checks checks = new Checks();

    public static void main(String[] args) {
        newObjects();
        write();
        loadRefusesWhatIsNoProgram();
        loadTakesThePlaceOfTheOlderOne();
        startNeedsAProgram();
        startAnswersTheState();
        startBeginsAnew();
        startMakesTheHitsOfAllLinesZero();
        state();
        result();
        stopNeedsALine();
        stopNeedsAnIgnoreCount();
        stopNeedsAnExpression();
        stopSetsWithoutHits();
        unstop();
        hits();
        watch();
        goNeedsAKind();
        goNeedsN();
        goNeedsAWaitingMachine();
        goPassesUpToN();
        goTellsDeadBeforeAll();
        goTellsOverBeforeThrows();
        goTellsThrowsBeforeBreaks();
        goTellsThrowsOfThatPassAlone();
        goTellsBreaksBeforeSteps();
        goTellsStepsBeforeN();
        goStepsOver();
        goStepsOut();
        points();
        depth();
        lineAndFunction();
        variable();
        set();
        evaluateNeedsAFrame();
        evaluateNeedsAnExpression();
        evaluateFailsByThrowsOrPoints();
        value();
        output();
        note();
        allOf512Calls();
        checks.end();
    }

    private static StopDesk over() {
        StopDesk desk = Checks.started("A0{a=6;^7;}");
        desk.go(0, 50);
        return desk;
    }

    private static StopDesk dead() {
        StopDesk desk = Checks.started("A0{a=6;#8;}");
        desk.go(0, 50);
        return desk;
    }

    /** Desks whose machine does not wait at a point: new, refused, loaded, over at once, over, dead, loaded again. */
    private static StopDesk[] idle() {
        StopDesk refused = new StopDesk();
        Checks.load(refused, "A0{");
        StopDesk again = Checks.started("A0{!1;}");
        Checks.load(again, "A0{!2;}");
        return new StopDesk[] {
            new StopDesk(), refused, Checks.loaded("A0{!1;}"), Checks.started("A0{}"), over(), dead(), again
        };
    }

    // Promise 1: "No program, an empty text."
    private static void newObjects() {
        StopDesk desk = new StopDesk();
        checks.due("state", desk.state(), 0);
        checks.due("start", desk.start(), -1);
        checks.due("stop", desk.stop(0, 0, false), false);
        checks.due("value", desk.value(), 0);
        checks.due("what is seen", Checks.seen(desk), Checks.seen(new StopDesk()));
        checks.due("load", desk.load(), -1);
        checks.due("load of what is written first", Checks.load(new StopDesk(), "A0{}"), 0);
        StopDesk other = Checks.started("A0{!1;}");
        checks.due("no other object's program", new StopDesk().start(), -1);
        checks.due("which is there", other.state(), 1);
    }

    // Promise 2: "true; false if 150 are there or its code is not 32 .. 126"
    private static void write() {
        StopDesk desk = new StopDesk();
        for (int i = 0; i < 149; i++) {
            checks.due("write " + i, desk.write(i % 2 == 0 ? ' ' : '~'), true);
        }
        checks.due("31 where there is room", desk.write((char) 31), false);
        checks.due("127 where there is room", desk.write((char) 127), false);
        checks.due("the 150th", desk.write('~'), true);
        checks.due("the 151st", desk.write('~'), false);
        checks.due("the 151st", desk.write(' '), false);
        checks.due("31 where there is none", desk.write((char) 31), false);
        desk.load();
        checks.due("32", desk.write((char) 32), true);
        checks.due("126", desk.write((char) 126), true);
        desk.load();
        desk.write((char) 31);
        checks.due("a refused one is not appended", Checks.load(desk, "A0{}"), 0);
    }

    // Promise 3: "Refused: -1 if the text is no program."
    private static void loadRefusesWhatIsNoProgram() {
        StopDesk desk = Checks.started("A0{!1;!2;}");
        Checks.stop(desk, 1, "7", 0, true);
        desk.go(0, 1);
        String before = Checks.seen(desk);
        checks.due("load of nothing", desk.load(), -1);
        checks.due("load", Checks.load(desk, "A1{}"), -1);
        checks.due("what is seen", Checks.seen(desk), before);
        checks.due("the older one runs on", desk.go(0, 50), 4);
        checks.due("and puts out", desk.output(0), 2);
    }

    // Promise 3: "It is not running; there are no breaks, nothing put out, no notes, no throws are watched."
    private static void loadTakesThePlaceOfTheOlderOne() {
        String[] programs = {"A0{}", "A0{~{#1;}{}!2;!3;}", "A0{" + Checks.repeat("!1;", 40) + "}"};
        int[] lines = {0, 4, 40};
        for (int i = 0; i < programs.length; i++) {
            StopDesk desk = Checks.started("A0{!7;~{!8;}{}!9;!9;}");
            desk.watch(true);
            for (int line = 0; line < 5; line++) {
                Checks.stop(desk, line, "5", 0, line > 0);
            }
            desk.go(0, 3);
            Checks.evaluate(desk, 0, "42");
            checks.due("load", Checks.load(desk, programs[i]), lines[i]);
            checks.due("what is seen", Checks.seen(desk), Checks.seen(new StopDesk()));
            desk.start();
            desk.go(0, 50);
            checks.due("nothing stops it", desk.state(), 2);
            checks.due("notes", desk.note(-1), 0);
        }
    }

    // Promise 4: "Refused: -1 if there is no program."
    private static void startNeedsAProgram() {
        StopDesk desk = new StopDesk();
        checks.due("start", desk.start(), -1);
        checks.due("state", desk.state(), 0);
        Checks.load(desk, "A0{");
        checks.due("start after a refused load", desk.start(), -1);
        Checks.load(desk, "A0{}");
        checks.due("start", desk.start(), 2);
        Checks.load(desk, "A0{");
        checks.due("start, the older one being there", desk.start(), 2);
    }

    // Promise 4: "the first point is reached [...], or running is over or dead: the state". Dead at once is none:
    // what can throw is a statement, and a point stands before the first of A.
    private static void startAnswersTheState() {
        checks.due("a point", Checks.loaded("A0{!1;}").start(), 1);
        checks.due("over at once", Checks.loaded("A0{}").start(), 2);
        checks.due("over at once", Checks.loaded("B0{!1;}A0{}").start(), 2);
        checks.due("a throw", Checks.loaded("A0{#1;}").start(), 1);
        checks.due("a division", Checks.loaded("A0{a=1/0;}").start(), 1);
        StopDesk empty = Checks.started("A0{}");
        checks.due("state", empty.state(), 2);
        checks.due("result", empty.result(), 0);
        checks.due("points", empty.points(), 0);
        checks.due("depth", empty.depth(), 0);
        checks.due("go", empty.go(0, 1), -1);
        checks.due("again", empty.start(), 2);
    }

    // Promise 4: "(anew): all that was put out and all notes are gone, hits are 0"
    private static void startBeginsAnew() {
        StopDesk fresh = Checks.loaded("A0{a=a+5;!a;b=B(a);#4;}B1{^a;}");
        fresh.stop(1, 3, true);
        Checks.stop(fresh, 2, "a", 0, true);
        fresh.start();
        String before = Checks.seen(fresh);
        int[] passes = {1, 4, 50};
        for (int pass : passes) {
            StopDesk desk = Checks.loaded("A0{a=a+5;!a;b=B(a);#4;}B1{^a;}");
            desk.stop(1, 3, true);
            Checks.stop(desk, 2, "a", 0, true);
            desk.start();
            desk.go(0, pass);
            checks.due("start after " + pass, desk.start(), 1);
            checks.due("what is seen after " + pass, Checks.seen(desk), before);
        }
    }

    private static void startMakesTheHitsOfAllLinesZero() {
        StopDesk desk = Checks.loaded("A0{@a<1{a=1;" + Checks.repeat("!1;", 38) + "}}");
        for (int line = 0; line < 40; line++) {
            desk.stop(line, 0, true);
        }
        desk.start();
        desk.go(0, 50);
        for (int line = 0; line < 40; line++) {
            checks.due("hits of " + line, desk.hits(line), 1);
        }
        desk.start();
        for (int line = 0; line < 40; line++) {
            checks.due("hits of " + line + " anew", desk.hits(line), 0);
        }
    }

    // Promise 5: "0 if there is no program or it was not started, 1 [...] waits at a point, 2 [...] over, 3 [...] dead"
    private static void state() {
        int[] states = {0, 0, 0, 2, 2, 3, 0};
        StopDesk[] idle = idle();
        for (int i = 0; i < states.length; i++) {
            checks.due("state of idle " + i, idle[i].state(), states[i]);
        }
        StopDesk desk = Checks.started("A0{!1;!2;}");
        checks.due("at the first point", desk.state(), 1);
        desk.go(0, 1);
        checks.due("at the last point", desk.state(), 1);
        desk.go(0, 1);
        checks.due("behind it", desk.state(), 2);
        desk.start();
        checks.due("anew", desk.state(), 1);
    }

    // Promise 6: "The value with which running is over or dead; 0 otherwise."
    private static void result() {
        int[] results = {0, 0, 0, 0, 7, 8, 0};
        StopDesk[] idle = idle();
        for (int i = 0; i < results.length; i++) {
            checks.due("result of idle " + i, idle[i].result(), results[i]);
        }
        int[] values = {MIN, -1, 0, 1, MAX};
        for (int value : values) {
            StopDesk desk = Checks.started("A0{b=a;?f{#b;}^b;}");
            desk.set(0, 0, value);
            desk.go(0, 1);
            checks.due("result while it waits", desk.result(), 0);
            desk.go(0, 50);
            checks.due("result when it is over", desk.result(), value);
            desk.start();
            checks.due("result anew", desk.result(), 0);
            desk.set(0, 0, value);
            desk.set(0, 5, 1);
            desk.go(0, 50);
            checks.due("state", desk.state(), 3);
            checks.due("result when it is dead", desk.result(), value);
            Checks.load(desk, "A0{}");
            checks.due("result of another", desk.result(), 0);
        }
    }

    // Promise 7: "False if there is no such line"
    private static void stopNeedsALine() {
        checks.due("no program", new StopDesk().stop(0, 0, false), false);
        checks.due("no lines", Checks.loaded("A0{}").stop(0, 0, false), false);
        int[] counts = {1, 2, 39, 40};
        for (int count : counts) {
            StopDesk desk = Checks.loaded("A0{" + Checks.repeat("!1;", count) + "}");
            checks.due("line -1 of " + count, desk.stop(-1, 0, false), false);
            checks.due("line 0 of " + count, desk.stop(0, 0, false), true);
            checks.due("the last of " + count, desk.stop(count - 1, 0, false), true);
            checks.due("behind the last of " + count, desk.stop(count, 0, false), false);
            for (int far : FAR) {
                checks.due("line " + far, desk.stop(far, 0, false), false);
            }
        }
        StopDesk fewer = Checks.loaded("A0{!1;!2;!3;}");
        fewer.stop(2, 0, false);
        Checks.load(fewer, "A0{!1;!2;}");
        checks.due("a line of the older program", fewer.stop(2, 0, false), false);
    }

    // Promise 7: "ignore is less than 0"
    private static void stopNeedsAnIgnoreCount() {
        int[] ignores = {MIN, -2, -1, 0, 1, 2, 3, MAX};
        for (int ignore : ignores) {
            StopDesk desk = Checks.started("A0{@a<2{a=a+1;}}");
            checks.due("ignore " + ignore, desk.stop(1, ignore, false), ignore >= 0);
            checks.due("hits", desk.hits(1), ignore >= 0 ? 0 : -1);
            checks.due("go", desk.go(0, 50), ignore >= 0 && ignore < 2 ? 1 : 4);
        }
    }

    // Promise 7: "or the text is neither empty nor an expression of the program"
    private static void stopNeedsAnExpression() {
        StopDesk desk = Checks.loaded("A0{!1;}B1{}");
        checks.due("empty", desk.stop(0, 0, false), true);
        checks.due("an expression", Checks.stop(desk, 0, "B(a)", 0, false), true);
        String[] none = {" ", "B()", "B(1,2)", "C()", "a=1;", "1000", "((((((1))))))", "g", "A0{}"};
        for (String text : none) {
            checks.due("stop " + text, Checks.stop(desk, 0, text, 0, false), false);
        }
        String full = Checks.repeat("1+", 74) + "11";
        checks.due("its length", full.length(), 150);
        checks.due("a full text", Checks.stop(desk, 0, full, 0, true), true);
        Checks.load(desk, "A0{!1;!2;}");
        checks.due("an expression of the older program", Checks.stop(desk, 0, "B(a)", 0, false), false);
        Checks.stop(desk, 1, full, 0, true);
        desk.start();
        desk.go(0, 1);
        checks.due("the note of a full text", desk.note(0), 85);
    }

    // Promise 7: "without hits, in the place of one that was there"
    private static void stopSetsWithoutHits() {
        StopDesk desk = Checks.started("A0{@a<9{a=a+1;}}");
        Checks.stop(desk, 1, "a<5", 0, true);
        desk.go(0, 3);
        checks.due("hits", desk.hits(1), 2);
        checks.due("notes", desk.note(-1), 2);
        desk.stop(1, 1, false);
        checks.due("hits of the new one", desk.hits(1), 0);
        checks.due("go", desk.go(0, 50), 1);
        checks.due("hits of the new one", desk.hits(1), 2);
        checks.due("notes", desk.note(-1), 2);
        Checks.stop(desk, 1, "a=8", 0, false);
        checks.due("go", desk.go(0, 50), 1);
        checks.due("a", desk.variable(0, 0), 8);
        checks.due("hits", desk.hits(1), 1);
    }

    // Promise 8: "its hits; NONE if there is no such line or it has none"
    private static void unstop() {
        StopDesk desk = Checks.started("A0{@a<3{a=a+1;}}");
        checks.due("none there", desk.unstop(1), -1);
        desk.stop(1, 5, false);
        checks.due("no hits", desk.unstop(1), 0);
        checks.due("twice", desk.unstop(1), -1);
        desk.stop(1, 5, false);
        desk.stop(0, 5, false);
        desk.go(0, 1);
        checks.due("the line before", desk.unstop(0), 0);
        checks.due("one hit", desk.unstop(1), 1);
        checks.due("gone", desk.hits(1), -1);
        checks.due("line -1", desk.unstop(-1), -1);
        checks.due("line 2", desk.unstop(2), -1);
        checks.due("line 39", desk.unstop(39), -1);
        checks.due("line 40", desk.unstop(40), -1);
        for (int far : FAR) {
            checks.due("line " + far, desk.unstop(far), -1);
        }
        desk.stop(1, 0, false);
        desk.unstop(1);
        checks.due("it stops no more", desk.go(0, 50), 4);
        checks.due("no program", new StopDesk().unstop(0), -1);
        checks.due("no lines", Checks.loaded("A0{}").unstop(0), -1);
    }

    // Promise 9: "NONE if there is no such line or it has none"
    private static void hits() {
        StopDesk desk = Checks.started("A0{@a<3{a=a+1;}}");
        checks.due("none there", desk.hits(1), -1);
        desk.stop(1, 5, false);
        checks.due("no hits", desk.hits(1), 0);
        desk.go(0, 1);
        checks.due("one hit", desk.hits(1), 1);
        checks.due("still", desk.hits(1), 1);
        checks.due("line 0", desk.hits(0), -1);
        checks.due("line -1", desk.hits(-1), -1);
        checks.due("line 2", desk.hits(2), -1);
        checks.due("line 39", desk.hits(39), -1);
        checks.due("line 40", desk.hits(40), -1);
        for (int far : FAR) {
            checks.due("line " + far, desk.hits(far), -1);
        }
        desk.go(0, 50);
        checks.due("when it is over", desk.hits(1), 3);
        desk.start();
        checks.due("anew", desk.hits(1), 0);
        desk.unstop(1);
        checks.due("taken away", desk.hits(1), -1);
        checks.due("no program", new StopDesk().hits(0), -1);
    }

    // Promise 10: "Whether throws are watched from now on"
    private static void watch() {
        StopDesk desk = Checks.started("A0{~{#1;}{}~{#2;}{}~{#3;}{}!4;}");
        desk.go(0, 2);
        desk.watch(true);
        checks.due("a throw before", desk.go(0, 1), 0);
        checks.due("a throw behind", desk.go(0, 1), 3);
        desk.watch(false);
        checks.due("no more", desk.go(0, 2), 0);
        desk.start();
        checks.due("nor anew", desk.go(0, 50), 4);
        desk.watch(true);
        desk.start();
        checks.due("also anew", desk.go(0, 50), 3);
        StopDesk early = new StopDesk();
        early.watch(true);
        Checks.load(early, "A0{~{#1;}{}!4;}");
        early.start();
        checks.due("a load ends it", early.go(0, 50), 4);
    }

    // Promise 11: "-1 if kind is not 0 .. 3"
    private static void goNeedsAKind() {
        int[] answers = {-1, 0, 2, 2, 0, -1, -1};
        for (int kind = -1; kind <= 5; kind++) {
            StopDesk desk = Checks.started("A0{!1;!2;}");
            checks.due("kind " + kind, desk.go(kind, 1), answers[kind + 1]);
            checks.due("points", desk.points(), answers[kind + 1] < 0 ? 0 : 1);
        }
        StopDesk desk = Checks.started("A0{!1;!2;}");
        for (int far : FAR) {
            checks.due("kind " + far, desk.go(far, 1), -1);
        }
        checks.due("points", desk.points(), 0);
    }

    // Promise 11: "n is not 1 .. 50"
    private static void goNeedsN() {
        int[] rows = {-1, 0, 1, 2, 49, 50, 51, 52};
        for (int n : rows) {
            boolean fits = n >= 1 && n <= 50;
            StopDesk desk = Checks.started("A0{@1{}}");
            checks.due("n " + n, desk.go(0, n), fits ? 0 : -1);
            checks.due("points", desk.points(), fits ? n : 0);
        }
        for (int kind = 0; kind <= 3; kind++) {
            StopDesk desk = Checks.started("A0{@1{}}");
            checks.due("n 0, kind " + kind, desk.go(kind, 0), -1);
            checks.due("n 51, kind " + kind, desk.go(kind, 51), -1);
            for (int far : FAR) {
                checks.due("n " + far, desk.go(kind, far), -1);
            }
            checks.due("points", desk.points(), 0);
        }
    }

    // Promise 11: "or the machine does not wait at a point"
    private static void goNeedsAWaitingMachine() {
        StopDesk[] idle = idle();
        for (int i = 0; i < idle.length; i++) {
            String before = Checks.seen(idle[i]);
            for (int kind = 0; kind <= 3; kind++) {
                checks.due("go of idle " + i, idle[i].go(kind, 1), -1);
            }
            checks.due("what is seen of idle " + i, Checks.seen(idle[i]), before);
        }
    }

    // Promise 11: "Passes points: one, and then more, up to n, until one of these holds after a pass"
    private static void goPassesUpToN() {
        for (int n = 1; n <= 4; n++) {
            StopDesk desk = Checks.started("A0{!1;!2;!3;}");
            checks.due("three points, n " + n, desk.go(0, n), n < 3 ? 0 : 4);
            checks.due("points, n " + n, desk.points(), Math.min(n, 3));
            StopDesk stopped = Checks.started("A0{!1;!2;!3;}");
            stopped.stop(2, 0, false);
            checks.due("a break, n " + n, stopped.go(0, n), n < 2 ? 0 : 1);
            checks.due("points, n " + n, stopped.points(), Math.min(n, 2));
        }
        StopDesk here = Checks.started("A0{!1;!2;}");
        here.stop(0, 0, false);
        here.stop(1, 0, false);
        checks.due("not where it waits before the first pass", here.go(0, 50), 1);
        checks.due("points", here.points(), 1);
    }

    // Promise 11: "5 running is dead", before 3, 1, 2 and 0
    private static void goTellsDeadBeforeAll() {
        for (int kind = 0; kind <= 3; kind++) {
            StopDesk desk = Checks.started("A0{a=B();}B0{#1;}");
            desk.watch(true);
            desk.stop(0, 0, false);
            desk.go(0, 1);
            checks.due("kind " + kind, desk.go(kind, 1), 5);
            checks.due("hits", desk.hits(0), 0);
            StopDesk unwatched = Checks.started("A0{#1;}");
            checks.due("unwatched, kind " + kind, unwatched.go(kind, 50), 5);
        }
    }

    // Promise 11: "4 it is over", before 3, 1, 2 and 0
    private static void goTellsOverBeforeThrows() {
        for (int kind = 0; kind <= 3; kind++) {
            StopDesk desk = Checks.started("A0{~{#1;}{}}");
            desk.watch(true);
            desk.stop(0, 0, false);
            desk.stop(1, 9, false);
            checks.due("into the try", desk.go(0, 1), 0);
            checks.due("kind " + kind, desk.go(kind, 1), 4);
            checks.due("hits", desk.hits(1), 1);
        }
    }

    // Promise 11: "3 throws are watched and something was thrown", before 1, 2 and 0;
    // "(A break's hits and notes count also where 3 is answered.)"
    private static void goTellsThrowsBeforeBreaks() {
        for (int kind = 0; kind <= 3; kind++) {
            StopDesk desk = Checks.started("A0{~{a=B();}{!e;}}B0{#6;}");
            desk.watch(true);
            desk.stop(2, 0, false);
            desk.go(0, 2);
            checks.due("kind " + kind, desk.go(kind, 1), 3);
            checks.due("hits", desk.hits(2), 1);
            desk.start();
            Checks.stop(desk, 2, "e+1", 0, true);
            desk.go(0, 2);
            checks.due("with a log, kind " + kind, desk.go(kind, 1), 3);
            checks.due("note", desk.note(0), 7);
            desk.start();
            desk.watch(false);
            desk.go(0, 2);
            checks.due("unwatched, kind " + kind, desk.go(kind, 1), kind == 0 ? 0 : 2);
        }
    }

    // Promise 11: "something was thrown in that pass (aside does not count)"
    private static void goTellsThrowsOfThatPassAlone() {
        StopDesk desk = Checks.started("A0{!1;~{#6;}{!2;}!3;}B0{~{#7;}{}^1;}");
        desk.watch(true);
        checks.due("the pass before", desk.go(0, 2), 0);
        checks.due("the pass of the throw", desk.go(0, 50), 3);
        checks.due("line", desk.line(0), 3);
        Checks.stop(desk, 4, "B()", 0, true);
        checks.due("the pass behind, and a condition aside", desk.go(0, 1), 0);
        checks.due("note", desk.note(0), 1);
        Checks.evaluate(desk, 0, "1/0");
        checks.due("after an evaluate", desk.go(0, 1), 4);
        StopDesk both = Checks.started("A0{a=B();!1;}B0{~{#7;}{}}");
        both.watch(true);
        checks.due("caught and gone on in the same pass", both.go(0, 50), 3);
        checks.due("line", both.line(0), 1);
    }

    // Promise 11: "1 a break stops", before 2 and 0
    private static void goTellsBreaksBeforeSteps() {
        for (int kind = 0; kind <= 3; kind++) {
            StopDesk desk = Checks.started("A0{a=B();!1;}B0{^6;}");
            desk.stop(1, 0, false);
            desk.go(0, 1);
            checks.due("kind " + kind, desk.go(kind, 1), 1);
            desk.start();
            desk.stop(1, 1, false);
            desk.go(0, 1);
            checks.due("ignored, kind " + kind, desk.go(kind, 1), kind == 0 ? 0 : 2);
            desk.start();
            desk.stop(1, 0, true);
            desk.go(0, 1);
            checks.due("a log, kind " + kind, desk.go(kind, 1), kind == 0 ? 0 : 2);
        }
    }

    // Promise 11: "2 a step is done: kind 1: always", before "0 n points were passed"
    private static void goTellsStepsBeforeN() {
        StopDesk desk = Checks.started("A0{!1;!2;!3;!4;}");
        checks.due("kind 1, n 1", desk.go(1, 1), 2);
        checks.due("kind 1, n 50", desk.go(1, 50), 2);
        checks.due("points", desk.points(), 2);
        checks.due("kind 0, n 1", desk.go(0, 1), 0);
        checks.due("kind 1 at the end", desk.go(1, 1), 4);
        StopDesk into = Checks.started(CALLING);
        checks.due("into a call", into.go(1, 50), 2);
        checks.due("depth", into.depth(), 2);
    }

    // Promise 11: "kind 2: there are no more frames than before the first pass"
    private static void goStepsOver() {
        StopDesk desk = Checks.started(CALLING);
        checks.due("one point too few", desk.go(2, 8), 0);
        checks.due("depth", desk.depth(), 2);
        desk.start();
        checks.due("back in as many frames", desk.go(2, 9), 2);
        checks.due("depth", desk.depth(), 1);
        desk.start();
        desk.go(0, 1);
        checks.due("in as many frames", desk.go(2, 50), 2);
        checks.due("points", desk.points(), 2);
        desk.start();
        desk.go(0, 6);
        checks.due("depth", desk.depth(), 4);
        checks.due("in fewer frames", desk.go(2, 50), 2);
        checks.due("depth", desk.depth(), 3);
        StopDesk next = Checks.started("A0{!B()+B();!2;}B0{!1;}");
        next.go(0, 1);
        checks.due("in another frame as high", next.go(2, 50), 2);
        checks.due("points", next.points(), 2);
        checks.due("line", next.line(0), 2);
    }

    // Promise 11: "kind 3: there are fewer"
    private static void goStepsOut() {
        StopDesk desk = Checks.started(CALLING);
        desk.go(0, 1);
        checks.due("one point too few", desk.go(3, 7), 0);
        checks.due("depth", desk.depth(), 2);
        desk.start();
        desk.go(0, 1);
        checks.due("in fewer frames", desk.go(3, 8), 2);
        checks.due("depth", desk.depth(), 1);
        checks.due("out of A", desk.go(3, 50), 4);
        StopDesk next = Checks.started("A0{!B()+B();!2;}B0{!1;}");
        next.go(0, 1);
        checks.due("as many are not fewer", next.go(3, 1), 0);
        checks.due("depth", next.depth(), 2);
        checks.due("fewer", next.go(3, 50), 2);
        checks.due("line", next.line(0), 1);
        StopDesk twice = Checks.started("A0{a=C();}C0{a=D();!1;}D0{#5;}");
        twice.go(0, 2);
        checks.due("thrown out of all", twice.go(3, 50), 5);
        StopDesk caught = Checks.started("A0{~{a=C();}{!e;}}C0{a=D();!1;}D0{#5;}");
        caught.go(0, 3);
        checks.due("depth", caught.depth(), 3);
        checks.due("thrown out of two", caught.go(3, 50), 2);
        checks.due("depth", caught.depth(), 1);
    }

    // Promise 12: "(aside does not count); 0 if the program was not started since it was loaded"
    private static void points() {
        int[] points = {0, 0, 0, 0, 2, 2, 0};
        StopDesk[] idle = idle();
        for (int i = 0; i < points.length; i++) {
            checks.due("points of idle " + i, idle[i].points(), points[i]);
        }
        StopDesk desk = Checks.started("A0{@1{}}B0{!1;^2;}");
        checks.due("at the start", desk.points(), 0);
        desk.go(0, 1);
        checks.due("one", desk.points(), 1);
        Checks.stop(desk, 0, "B()", 0, true);
        desk.go(0, 50);
        checks.due("conditions do not count", desk.points(), 51);
        Checks.evaluate(desk, 0, "B()");
        checks.due("evaluate does not count", desk.points(), 51);
        desk.go(0, 51);
        checks.due("a refused go does not count", desk.points(), 51);
        for (int i = 0; i < 6; i++) {
            desk.go(0, 50);
        }
        checks.due("many", desk.points(), 351);
        desk.start();
        checks.due("anew", desk.points(), 0);
    }

    // Promise 13: "0 if the machine does not wait at a point"
    private static void depth() {
        StopDesk[] idle = idle();
        for (int i = 0; i < idle.length; i++) {
            checks.due("depth of idle " + i, idle[i].depth(), 0);
        }
        StopDesk desk = Checks.started("A0{a=A();}");
        for (int depth = 1; depth <= 6; depth++) {
            checks.due("depth", desk.depth(), depth);
            desk.go(1, 1);
        }
        checks.due("dead", desk.depth(), 0);
    }

    // Promises 14 and 15: "0 being the one on top; NONE if there is none"
    private static void lineAndFunction() {
        StopDesk[] idle = idle();
        for (int i = 0; i < idle.length; i++) {
            checks.due("line of idle " + i, idle[i].line(0), -1);
            checks.due("function of idle " + i, idle[i].function(0), -1);
        }
        StopDesk desk = Checks.started("A0{a=B();}B0{a=C();}C0{a=D();}D0{a=A();}");
        int[] functions = {0, 1, 2, 3, 0, 1};
        for (int depth = 1; depth <= 6; depth++) {
            checks.due("line(-1)", desk.line(-1), -1);
            checks.due("function(-1)", desk.function(-1), -1);
            for (int frame = 0; frame < 7; frame++) {
                int due = frame < depth ? functions[depth - 1 - frame] : -1;
                checks.due("line " + frame + " of " + depth, desk.line(frame), due);
                checks.due("function " + frame + " of " + depth, desk.function(frame), due);
            }
            desk.go(1, 1);
        }
        desk.start();
        for (int far : FAR) {
            checks.due("line " + far, desk.line(far), -1);
            checks.due("function " + far, desk.function(far), -1);
        }
    }

    // Promise 16: "0 if there is no such frame or variable"
    private static void variable() {
        StopDesk[] idle = idle();
        for (int i = 0; i < idle.length; i++) {
            checks.due("variable of idle " + i, idle[i].variable(0, 0), 0);
        }
        StopDesk desk = Checks.started("A0{a=B();}B0{a=a;}");
        desk.go(0, 1);
        for (int v = 0; v < 6; v++) {
            desk.set(0, v, 10 + v);
            desk.set(1, v, 20 + v);
        }
        for (int frame = -1; frame <= 2; frame++) {
            for (int v = -1; v <= 6; v++) {
                boolean there = frame >= 0 && frame < 2 && v >= 0 && v < 6;
                checks.due("variable " + frame + " " + v, desk.variable(frame, v), there ? frame * 10 + 10 + v : 0);
            }
        }
        for (int far : FAR) {
            checks.due("frame " + far, desk.variable(far, 0), 0);
            checks.due("variable " + far, desk.variable(0, far), 0);
            checks.due("both " + far, desk.variable(far, far), 0);
        }
    }

    // Promise 17: "true; false if there is no such frame or variable"
    private static void set() {
        StopDesk[] idle = idle();
        for (int i = 0; i < idle.length; i++) {
            checks.due("set of idle " + i, idle[i].set(0, 0, 5), false);
            idle[i].start();
            checks.due("it is not kept for a start", idle[i].variable(0, 0), 0);
        }
        for (int frame = -1; frame <= 2; frame++) {
            for (int v = -1; v <= 6; v++) {
                boolean there = frame >= 0 && frame < 2 && v >= 0 && v < 6;
                StopDesk desk = Checks.started("A0{a=B();}B0{a=a;}");
                desk.go(0, 1);
                String before = Checks.seen(desk);
                checks.due("set " + frame + " " + v, desk.set(frame, v, 55), there);
                checks.due("variable " + frame + " " + v, desk.variable(frame, v), there ? 55 : 0);
                desk.set(frame, v, 0);
                checks.due("the others", Checks.seen(desk), before);
            }
        }
        StopDesk desk = Checks.started("A0{a=B();}B0{a=a;}");
        String before = Checks.seen(desk);
        for (int far : FAR) {
            checks.due("frame " + far, desk.set(far, 0, 1), false);
            checks.due("variable " + far, desk.set(0, far, 1), false);
        }
        checks.due("what is seen", Checks.seen(desk), before);
        int[] values = {MIN, -1, 0, 1, MAX};
        for (int value : values) {
            desk.set(0, 3, value);
            checks.due("value " + value, desk.variable(0, 3), value);
        }
    }

    // Promise 18: "-1 if there is no such frame"
    private static void evaluateNeedsAFrame() {
        StopDesk[] idle = idle();
        for (int i = 0; i < idle.length; i++) {
            checks.due("evaluate of idle " + i, Checks.evaluate(idle[i], 0, "1"), -1);
            checks.due("value of idle " + i, idle[i].value(), 0);
        }
        StopDesk desk = Checks.started("A0{a=A();}");
        int latest = 0;
        for (int depth = 1; depth <= 6; depth++) {
            desk.set(0, 1, depth);
            for (int frame = -1; frame <= depth; frame++) {
                boolean there = frame >= 0 && frame < depth;
                checks.due("frame " + frame + " of " + depth, Checks.evaluate(desk, frame, "b"), there ? 0 : -1);
                latest = there ? depth - frame : latest;
                checks.due("value", desk.value(), latest);
            }
            desk.go(1, 1);
        }
        StopDesk one = Checks.started("A0{!1;}");
        for (int far : FAR) {
            checks.due("frame " + far, Checks.evaluate(one, far, "1"), -1);
        }
    }

    // Promise 18: "or the text is no expression of the program"
    private static void evaluateNeedsAnExpression() {
        StopDesk desk = Checks.started("A0{!1;}B1{^a;}");
        checks.due("empty", desk.evaluate(0), -1);
        checks.due("an expression", Checks.evaluate(desk, 0, "B(7)"), 0);
        checks.due("value", desk.value(), 7);
        String[] none = {" ", "B()", "B(1,2)", "C()", "a=1;", "1000", "((((((1))))))", "g", "A0{}"};
        for (String text : none) {
            checks.due("evaluate " + text, Checks.evaluate(desk, 0, text), -1);
        }
        checks.due("value", desk.value(), 7);
        checks.due("a full text", Checks.evaluate(desk, 0, Checks.repeat("1+", 74) + "11"), 0);
        checks.due("value", desk.value(), 85);
        Checks.load(desk, "A0{!1;}");
        desk.start();
        checks.due("an expression of the older program", Checks.evaluate(desk, 0, "B(7)"), -1);
    }

    // Promise 18: "-2 if it fails because something is thrown; -3 if it fails because of the points"
    private static void evaluateFailsByThrowsOrPoints() {
        StopDesk desk = Checks.started("A0{!1;}B1{@a{a=a-1;}^5;}C0{^6;}D1{#a;}");
        int[] divisors = {-1, 0, 1};
        for (int divisor : divisors) {
            desk.set(0, 0, divisor);
            checks.due("1/a with " + divisor, Checks.evaluate(desk, 0, "1/a"), divisor == 0 ? -2 : 0);
            checks.due("value", desk.value(), divisor == 1 ? 1 : -1);
        }
        checks.due("a throw of 0", Checks.evaluate(desk, 0, "D(0)"), -2);
        checks.due("a throw of 1", Checks.evaluate(desk, 0, "D(1)"), -2);
        checks.due("99 points", Checks.evaluate(desk, 0, "B(48)+C()"), 0);
        checks.due("100 points", Checks.evaluate(desk, 0, "B(49)"), 0);
        checks.due("101 points", Checks.evaluate(desk, 0, "B(49)+C()"), -3);
        checks.due("102 points", Checks.evaluate(desk, 0, "B(50)"), -3);
        checks.due("value", desk.value(), 5);
    }

    // Promise 19: "since the program was loaded; 0 if there was none"
    private static void value() {
        StopDesk desk = new StopDesk();
        checks.due("new", desk.value(), 0);
        Checks.load(desk, "A0{!1;}B0{@1{}}");
        desk.start();
        checks.due("none yet", desk.value(), 0);
        int[] values = {MIN, -1, 0, 1, MAX};
        for (int value : values) {
            desk.set(0, 0, value);
            Checks.evaluate(desk, 0, "a");
            checks.due("value " + value, desk.value(), value);
        }
        Checks.evaluate(desk, 0, "1+");
        Checks.evaluate(desk, 1, "1");
        Checks.evaluate(desk, 0, "1/0");
        Checks.evaluate(desk, 0, "B()");
        checks.due("after some that were refused", desk.value(), MAX);
        desk.go(0, 1);
        checks.due("when it is over", desk.value(), MAX);
        desk.start();
        checks.due("after a start", desk.value(), MAX);
        Checks.load(desk, "A0{");
        checks.due("after a refused load", desk.value(), MAX);
        Checks.load(desk, "A0{!1;}");
        checks.due("after a load", desk.value(), 0);
        desk.start();
        checks.due("after a load and a start", desk.value(), 0);
    }

    // Promise 20: "0 if there is none, or k is not 0 .. 15. How many were put out if k is -1."
    private static void output() {
        StopDesk[] idle = idle();
        for (int i = 0; i < idle.length; i++) {
            checks.due("output(-1) of idle " + i, idle[i].output(-1), 0);
            checks.due("output(0) of idle " + i, idle[i].output(0), 0);
        }
        for (int count : COUNTS) {
            StopDesk desk = Checks.started("A0{@a<" + count + "{a=a+1;!a+100;}f=f;}");
            for (int i = 0; i < 3 * count + 1; i++) {
                desk.go(0, 1);
            }
            checks.due("count of " + count, desk.output(-1), count);
            for (int k = 0; k <= 17; k++) {
                boolean there = k < count && k <= 15;
                checks.due("output " + k + " of " + count, desk.output(k), there ? 100 + count - k : 0);
            }
            checks.due("output(-2)", desk.output(-2), 0);
            for (int far : FAR) {
                checks.due("output " + far, desk.output(far), 0);
            }
            desk.start();
            checks.due("count anew", desk.output(-1), 0);
            checks.due("output(0) anew", desk.output(0), 0);
            checks.due("output(15) anew", desk.output(15), 0);
        }
        StopDesk ended = Checks.started("A0{!7;#8;}");
        ended.go(0, 50);
        checks.due("when it is dead", ended.output(0), 7);
        checks.due("count", ended.output(-1), 1);
    }

    // Promise 21: "As output, for the notes."
    private static void note() {
        StopDesk[] idle = idle();
        for (int i = 0; i < idle.length; i++) {
            checks.due("note(-1) of idle " + i, idle[i].note(-1), 0);
            checks.due("note(0) of idle " + i, idle[i].note(0), 0);
        }
        for (int count : COUNTS) {
            StopDesk desk = Checks.started("A0{@a<" + count + "{a=a+1;}f=f;}");
            Checks.stop(desk, 1, "a+101", 0, true);
            for (int i = 0; i < 2 * count + 1; i++) {
                desk.go(0, 1);
            }
            checks.due("count of " + count, desk.note(-1), count);
            for (int k = 0; k <= 17; k++) {
                boolean there = k < count && k <= 15;
                checks.due("note " + k + " of " + count, desk.note(k), there ? 100 + count - k : 0);
            }
            checks.due("note(-2)", desk.note(-2), 0);
            for (int far : FAR) {
                checks.due("note " + far, desk.note(far), 0);
            }
            checks.due("nothing is put out", desk.output(-1), 0);
            desk.start();
            checks.due("count anew", desk.note(-1), 0);
            checks.due("note(0) anew", desk.note(0), 0);
            checks.due("note(15) anew", desk.note(15), 0);
        }
    }

    // "An object is used for at most 512 calls after it has been made"
    private static void allOf512Calls() {
        StopDesk desk = Checks.loaded("A0{@1{!1;}}");
        desk.stop(1, 0, true);
        desk.start();
        // Writing, load, stop and start were 14 calls, and four are asked at the end.
        int passes = 512 - 14 - 4;
        for (int i = 0; i < passes; i++) {
            checks.due("go " + i, desk.go(0, 50), 0);
        }
        checks.due("points", desk.points(), passes * 50);
        checks.due("put out", desk.output(-1), passes * 25);
        checks.due("noted", desk.note(-1), passes * 25);
        checks.due("hits", desk.hits(1), passes * 25);
    }
}
