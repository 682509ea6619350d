/** Promises 7 to 9 and 21: stop, unstop, hits and note, and what breaks do when points are reached. */
public final class BreakTest {
    private static final String COUNTING = "A0{@a<9{a=a+1;b=b+a;}}";

    private static final Checks checks = new Checks();

    public static void main(String[] args) {
        stopNeedsALine();
        stopNeedsAnIgnoreCount();
        stopNeedsAnExpression();
        stopTakesTheText();
        stopTakesThePlaceOfAnother();
        aRefusedStopLeavesTheOtherBreak();
        unstopTakesABreakAway();
        hitsAreCounted();
        breaksStopAtTheirLine();
        conditionsAreWorkedOutOnTop();
        failingConditionsCountAsZero();
        ignoredHitsDoNotStop();
        logsPutIntoTheNotes();
        notesAreKept();
        conditionsLeaveNoTrace();
        breaksInCallsCount();
        breaksMayBeSetAtAnyTime();
        checks.end();
    }

    private static void stopNeedsALine() {
        checks.due("no program", new StopDesk().stop(0, 0, false), false);
        checks.due("no lines", Checks.loaded("A0{}").stop(0, 0, false), false);
        StopDesk desk = Checks.loaded(COUNTING);
        checks.due("line -1", desk.stop(-1, 0, false), false);
        checks.due("line 0", desk.stop(0, 0, false), true);
        checks.due("line 2", desk.stop(2, 0, false), true);
        checks.due("line 3", desk.stop(3, 0, false), false);
        checks.due("line MAX", desk.stop(Integer.MAX_VALUE, 0, false), false);
        checks.due("line MIN", desk.stop(Integer.MIN_VALUE, 0, false), false);
        checks.due("hits(3)", desk.hits(3), -1);
        checks.due("hits(39)", desk.hits(39), -1);
        checks.due("hits(40)", desk.hits(40), -1);
        checks.due("hits(-1)", desk.hits(-1), -1);
        checks.due("hits(MAX)", desk.hits(Integer.MAX_VALUE), -1);
        checks.due("hits(MIN)", desk.hits(Integer.MIN_VALUE), -1);
        checks.due("unstop(3)", desk.unstop(3), -1);
        checks.due("unstop(40)", desk.unstop(40), -1);
        checks.due("unstop(-1)", desk.unstop(-1), -1);
        checks.due("unstop(MAX)", desk.unstop(Integer.MAX_VALUE), -1);
    }

    private static void stopNeedsAnIgnoreCount() {
        StopDesk desk = Checks.loaded(COUNTING);
        checks.due("ignore -1", desk.stop(0, -1, false), false);
        checks.due("ignore MIN", desk.stop(0, Integer.MIN_VALUE, true), false);
        checks.due("hits", desk.hits(0), -1);
        checks.due("ignore MAX", desk.stop(0, Integer.MAX_VALUE, false), true);
        desk.start();
        checks.due("never stops", Checks.runOut(desk), 4);
        checks.due("hits", desk.hits(0), 9);
    }

    private static void stopNeedsAnExpression() {
        StopDesk desk = Checks.loaded("A0{!B(1);}B1{^a;}");
        String[] expressions = {"1", "a", "a=1", "(a)", "B(1)", "A()", "B(B(a+1))", "(((((1)))))", "999"};
        for (String expression : expressions) {
            checks.due("stop " + expression, Checks.stop(desk, 0, expression, 0, false), true);
        }
        String[] none = {
            " ", "1 ", " 1", "1;", "a=1;", "g", "C()", "B()", "B(1,2)", "A(1)", "((((((1))))))", "1+", "1000",
            "B(B(B(B(B(B(1))))))", "B(1)+B()", "1)", "()", "{}", "A0{}", "-1", "1,2"
        };
        for (String text : none) {
            checks.due("stop " + text, Checks.stop(desk, 1, text, 0, false), false);
        }
        checks.due("hits of the refused", desk.hits(1), -1);
    }

    private static void stopTakesTheText() {
        StopDesk desk = Checks.loaded(COUNTING);
        Checks.stop(desk, 0, "a=3", 0, false);
        checks.due("no condition is left", desk.stop(1, 0, false), true);
        desk.start();
        checks.due("go", desk.go(0, 50), 1);
        checks.due("line", desk.line(0), 1);
        Checks.stop(desk, 9, "((", 0, false);
        checks.due("a refused text is gone", Checks.stop(desk, 1, "1", 0, false), true);
        Checks.stop(desk, 1, "((", -1, false);
        checks.due("a refused text is gone", Checks.stop(desk, 1, "1", 0, false), true);
        Checks.stop(desk, 1, "((", 0, false);
        checks.due("a refused text is gone", Checks.stop(desk, 1, "1", 0, false), true);
        StopDesk empty = new StopDesk();
        Checks.stop(empty, 0, "A0{", 0, false);
        checks.due("gone where no program is", Checks.load(empty, "A0{}"), 0);
    }

    private static void stopTakesThePlaceOfAnother() {
        StopDesk desk = Checks.started(COUNTING);
        Checks.stop(desk, 1, "7", 0, true);
        desk.go(0, 10);
        checks.due("hits", desk.hits(1), 4);
        checks.due("another", Checks.stop(desk, 1, "", 1, false), true);
        checks.due("without hits", desk.hits(1), 0);
        checks.due("go", desk.go(0, 50), 1);
        checks.due("hits", desk.hits(1), 2);
        checks.due("a", desk.variable(0, 0), 5);
        checks.due("notes", desk.note(-1), 4);
    }

    private static void aRefusedStopLeavesTheOtherBreak() {
        StopDesk desk = Checks.started(COUNTING);
        Checks.stop(desk, 1, "a=2", 0, false);
        checks.due("go", desk.go(0, 50), 1);
        checks.due("refused", Checks.stop(desk, 1, "a=5)", 0, false), false);
        checks.due("refused", Checks.stop(desk, 1, "a=5", -1, false), false);
        checks.due("hits", desk.hits(1), 1);
        desk.start();
        checks.due("go", desk.go(0, 50), 1);
        checks.due("a", desk.variable(0, 0), 2);
    }

    private static void unstopTakesABreakAway() {
        StopDesk desk = Checks.started(COUNTING);
        checks.due("none there", desk.unstop(1), -1);
        desk.stop(1, 2, false);
        desk.stop(2, 9, false);
        checks.due("go", desk.go(0, 50), 1);
        checks.due("its hits", desk.unstop(1), 3);
        checks.due("gone", desk.unstop(1), -1);
        checks.due("gone", desk.hits(1), -1);
        checks.due("the other stays", desk.hits(2), 2);
        checks.due("nothing stops", desk.go(0, 50), 4);
        desk.stop(1, 0, false);
        checks.due("no hits yet", desk.unstop(1), 0);
        checks.due("no program", new StopDesk().unstop(0), -1);
    }

    private static void hitsAreCounted() {
        StopDesk desk = Checks.started(COUNTING);
        desk.stop(0, 100, false);
        Checks.stop(desk, 1, "a<4", 100, true);
        Checks.stop(desk, 2, "0", 0, false);
        checks.due("go", Checks.runOut(desk), 4);
        checks.due("without condition, not at the start", desk.hits(0), 9);
        checks.due("with condition", desk.hits(1), 4);
        checks.due("with a condition that is 0", desk.hits(2), 0);
        checks.due("no notes", desk.note(-1), 0);
        desk.start();
        checks.due("anew", desk.hits(0), 0);
        checks.due("anew", desk.hits(1), 0);
    }

    private static void breaksStopAtTheirLine() {
        StopDesk desk = Checks.started(COUNTING);
        desk.stop(2, 0, false);
        for (int i = 1; i <= 9; i++) {
            checks.due("go " + i, desk.go(0, 50), 1);
            checks.due("line", desk.line(0), 2);
            checks.due("a", desk.variable(0, 0), i);
            checks.due("hits", desk.hits(2), i);
        }
        checks.due("go", desk.go(0, 50), 4);
        desk.start();
        checks.due("n is too small", desk.go(0, 1), 0);
        checks.due("the last of n stops", desk.go(0, 1), 1);
    }

    private static void conditionsAreWorkedOutOnTop() {
        StopDesk desk = Checks.started("A0{a=5;b=B(1);}B1{b=a+1;?a<3{c=B(a+1);}}");
        Checks.stop(desk, 2, "a=2", 0, false);
        checks.due("go", desk.go(0, 50), 1);
        checks.due("depth", desk.depth(), 3);
        checks.due("hits", desk.hits(2), 1);
        Checks.stop(desk, 3, "a-3", 0, false);
        checks.due("go, a negative one holds", desk.go(0, 50), 1);
        checks.due("line", desk.line(0), 3);
        Checks.stop(desk, 3, "B(1)", 0, false);
        Checks.stop(desk, 2, "b", 0, false);
        checks.due("b is 0 on top, if not below", desk.go(0, 50), 4);
        checks.due("hits", desk.hits(2), 0);
        checks.due("hits", desk.hits(3), 0);
    }

    private static void failingConditionsCountAsZero() {
        StopDesk desk = Checks.started("A0{!1;~{!2;!3;}{!9;}}B0{@1{}}C0{#7;}D0{^D();}");
        Checks.stop(desk, 1, "1/0", 0, false);
        Checks.stop(desk, 2, "B()+1", 0, false);
        Checks.stop(desk, 3, "C()+1", 0, true);
        desk.watch(true);
        checks.due("go", desk.go(0, 50), 4);
        checks.due("hits(1)", desk.hits(1), 0);
        checks.due("hits(2)", desk.hits(2), 0);
        checks.due("hits(3)", desk.hits(3), 0);
        checks.due("notes", desk.note(-1), 0);
        checks.due("what a condition throws is not caught outside", desk.output(0), 3);
        Checks.stop(desk, 1, "D()", 0, false);
        desk.start();
        checks.due("go", desk.go(0, 50), 4);
        checks.due("hits", desk.hits(1), 0);
    }

    private static void ignoredHitsDoNotStop() {
        StopDesk desk = Checks.started(COUNTING);
        Checks.stop(desk, 1, "a<8", 3, false);
        checks.due("go", desk.go(0, 50), 1);
        checks.due("a", desk.variable(0, 0), 3);
        checks.due("hits", desk.hits(1), 4);
        checks.due("go", desk.go(0, 50), 1);
        checks.due("a", desk.variable(0, 0), 4);
        desk.start();
        checks.due("hits begin anew", desk.go(0, 50), 1);
        checks.due("a", desk.variable(0, 0), 3);
    }

    private static void logsPutIntoTheNotes() {
        StopDesk desk = Checks.started(COUNTING);
        Checks.stop(desk, 1, "a*2", 2, true);
        Checks.stop(desk, 2, "", 7, true);
        checks.due("logs do not stop", desk.go(0, 50), 4);
        // a*2 is 0, no hit, at first; then 2 and 4 are ignored; line 2 notes 0 for the eighth and ninth time.
        int[] notes = {6, 8, 10, 12, 14, 0, 16, 0};
        checks.due("count", desk.note(-1), notes.length);
        for (int i = 0; i < notes.length; i++) {
            checks.due("note " + i, desk.note(notes.length - 1 - i), notes[i]);
        }
        checks.due("hits", desk.hits(1), 8);
        checks.due("nothing is put out", desk.output(-1), 0);
    }

    private static void notesAreKept() {
        StopDesk desk = Checks.started("A0{@a<20{a=a+1;}!1;}");
        checks.due("none", desk.note(-1), 0);
        Checks.stop(desk, 0, "a+100", 0, true);
        desk.go(0, 50);
        checks.due("count", desk.note(-1), 20);
        for (int k = 0; k < 16; k++) {
            checks.due("note(" + k + ")", desk.note(k), 120 - k);
        }
        checks.due("note(16)", desk.note(16), 0);
        checks.due("note(-2)", desk.note(-2), 0);
        checks.due("note(MAX)", desk.note(Integer.MAX_VALUE), 0);
        checks.due("note(MIN)", desk.note(Integer.MIN_VALUE), 0);
        desk.start();
        desk.go(0, 2);
        checks.due("count", desk.note(-1), 1);
        checks.due("latest", desk.note(0), 101);
        checks.due("not an old one", desk.note(1), 0);
    }

    private static void conditionsLeaveNoTrace() {
        StopDesk desk = Checks.started("A0{a=1;a=2;a=3;}B1{!a;b=5;~{#8;}{}^b;}");
        Checks.stop(desk, 1, "B(4)", 0, true);
        Checks.stop(desk, 4, "1", 0, false);
        desk.watch(true);
        checks.due("go", desk.go(0, 2), 0);
        checks.due("note", desk.note(0), 5);
        checks.due("points", desk.points(), 2);
        checks.due("output", desk.output(-1), 0);
        checks.due("breaks aside don't count", desk.hits(4), 0);
        checks.due("a", desk.variable(0, 0), 2);
        checks.due("b", desk.variable(0, 1), 0);
        checks.due("e", desk.variable(0, 4), 0);
        checks.due("value", desk.value(), 0);
    }

    private static void breaksInCallsCount() {
        StopDesk desk = Checks.started("A0{!B(1)+B(2);}B1{^a;}");
        desk.stop(1, 0, false);
        checks.due("go", desk.go(0, 50), 1);
        checks.due("a", desk.variable(0, 0), 1);
        checks.due("go", desk.go(0, 50), 1);
        checks.due("a", desk.variable(0, 0), 2);
        checks.due("go", desk.go(0, 50), 4);
        checks.due("output", desk.output(0), 3);
    }

    private static void breaksMayBeSetAtAnyTime() {
        StopDesk desk = Checks.loaded(COUNTING);
        checks.due("before the start", desk.stop(1, 0, false), true);
        checks.due("hits", desk.hits(1), 0);
        desk.start();
        checks.due("go", desk.go(0, 50), 1);
        desk.unstop(1);
        Checks.runOut(desk);
        checks.due("when it is over", Checks.stop(desk, 2, "a", 0, false), true);
        desk.start();
        checks.due("go", desk.go(0, 50), 1);
        checks.due("line", desk.line(0), 2);
        StopDesk dead = Checks.started("A0{#1;}");
        dead.go(0, 1);
        checks.due("when it is dead", dead.stop(0, 0, false), true);
        checks.due("hits", dead.hits(0), 0);
    }
}
