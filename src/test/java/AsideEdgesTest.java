/**
 * The boundary cases that 'Terms' names for breaks, notes, working out ASIDE and refusals: each sentence by a
 * test of its own, at the boundary and beside it.
 */
public final class AsideEdgesTest {
    /** B(n) passes 2 * n + 2 points, C() one and D() none. */
    private static final String PASSING = "A0{a=a;!1;!2;}B1{@a{a=a-1;}^5;}C0{^6;}D0{}";

    private static final Checks checks = new Checks();

    public static void main(String[] args) {
        aPointReachedByTheStartCountsNoBreak();
        aBreakWithoutConditionIsAlwaysHit();
        aConditionOtherThanZeroIsAHit();
        theConditionIsWorkedOutInTheFrameOnTop();
        moreHitsThanTheIgnoreCountStop();
        hitsGoOnBeyondTheIgnoreCount();
        moreHitsThanTheIgnoreCountAreNoted();
        aLogNotesTheValueOfItsCondition();
        aLogWithoutConditionNotesZero();
        aLogNeverStops();
        theCopyIsTheLowestFrame();
        theCopyIsOfThatFrameAlone();
        nothingThrownIsCaughtFromOutside();
        aTryInACallCatches();
        whatIsPutOutIsLost();
        breaksDontCountAside();
        itFailsIfMoreThan100PointsArePassed();
        pointsOfAllCallsCountTogether();
        aTryDoesNotCatchThePoints();
        whatFailsFirstIsTold();
        aConditionThatThrowsCountsAsZero();
        aConditionWithTooManyPointsCountsAsZero();
        aRefusedCallChangesNothing();
        aRefusedCallChangesNothingThatIsHidden();
        theFirstRefusalIsAnswered();
        checks.end();
    }

    private static void gives(StopDesk desk, int frame, String expression, int value) {
        checks.due("evaluate " + expression, Checks.evaluate(desk, frame, expression), 0);
        checks.due("value of " + expression, desk.value(), value);
    }

    private static void fails(StopDesk desk, int frame, String expression, int answer) {
        int before = desk.value();
        checks.due("evaluate " + expression, Checks.evaluate(desk, frame, expression), answer);
        checks.due("value after " + expression, desk.value(), before);
    }

    // "When a point is reached by passing and its line has a break"
    private static void aPointReachedByTheStartCountsNoBreak() {
        StopDesk desk = Checks.loaded("A0{@a<2{a=a+1;}}");
        Checks.stop(desk, 0, "7", 0, true);
        desk.start();
        checks.due("hits at the start", desk.hits(0), 0);
        checks.due("notes at the start", desk.note(-1), 0);
        desk.go(0, 1);
        checks.due("hits at another line", desk.hits(0), 0);
        desk.go(0, 1);
        checks.due("hits when it is reached by passing", desk.hits(0), 1);
        checks.due("notes", desk.note(-1), 1);
        desk.stop(0, 0, false);
        checks.due("a break set where it waits", desk.hits(0), 0);
        checks.due("stops when it is reached again", desk.go(0, 50), 1);
        checks.due("hits", desk.hits(0), 1);
    }

    // "if it has no condition, or that has a value other than 0 [...], it has one hit more"
    private static void aBreakWithoutConditionIsAlwaysHit() {
        StopDesk desk = Checks.started("A0{@a<3{a=a+1;}!1;}");
        desk.stop(1, 9, false);
        desk.stop(2, 0, false);
        checks.due("go", desk.go(0, 50), 1);
        checks.due("hits(1)", desk.hits(1), 3);
        checks.due("hits(2)", desk.hits(2), 1);
    }

    private static void aConditionOtherThanZeroIsAHit() {
        int[] values = {Integer.MIN_VALUE, -2, -1, 0, 1, 2, 65536, Integer.MAX_VALUE};
        for (int value : values) {
            StopDesk desk = Checks.started("A0{!1;!2;}");
            Checks.stop(desk, 1, "a", 0, false);
            desk.set(0, 0, value);
            checks.due("go with " + value, desk.go(0, 1), value == 0 ? 0 : 1);
            checks.due("hits with " + value, desk.hits(1), value == 0 ? 0 : 1);
        }
    }

    // "in the frame on top"
    private static void theConditionIsWorkedOutInTheFrameOnTop() {
        StopDesk desk = Checks.started("A0{a=1;b=B(0);!a;}B1{!a;!a;}");
        Checks.stop(desk, 3, "a", 0, false);
        Checks.stop(desk, 2, "a", 0, false);
        checks.due("a is 0 on top, 1 below", desk.go(0, 3), 0);
        checks.due("hits", desk.hits(3), 0);
        checks.due("a is 1 when that is on top", desk.go(0, 2), 1);
        checks.due("line", desk.line(0), 2);
    }

    // "if that makes more hits than the ignore count [...] any other break STOPS"
    private static void moreHitsThanTheIgnoreCountStop() {
        for (int ignore = 0; ignore <= 4; ignore++) {
            StopDesk desk = Checks.started("A0{@a<4{a=a+1;}}");
            desk.stop(1, ignore, false);
            int answer = desk.go(0, 50);
            checks.due("go, ignore " + ignore, answer, ignore < 4 ? 1 : 4);
            checks.due("hits, ignore " + ignore, desk.hits(1), Math.min(ignore + 1, 4));
            checks.due("a, ignore " + ignore, desk.variable(0, 0), ignore < 4 ? ignore : 0);
        }
    }

    private static void hitsGoOnBeyondTheIgnoreCount() {
        StopDesk desk = Checks.started("A0{@a<4{a=a+1;}}");
        desk.stop(1, 1, false);
        int[] hits = {2, 3, 4};
        for (int due : hits) {
            checks.due("go", desk.go(0, 50), 1);
            checks.due("hits", desk.hits(1), due);
        }
        checks.due("go", desk.go(0, 50), 4);
        checks.due("hits", desk.hits(1), 4);
    }

    // "if that makes more hits than the ignore count, a log puts the value of its condition [...] into the NOTES"
    private static void moreHitsThanTheIgnoreCountAreNoted() {
        for (int ignore = 0; ignore <= 5; ignore++) {
            StopDesk desk = Checks.started("A0{@a<4{a=a+1;}}");
            Checks.stop(desk, 1, "a+10", ignore, true);
            checks.due("go", desk.go(0, 50), 4);
            checks.due("hits", desk.hits(1), 4);
            checks.due("notes, ignore " + ignore, desk.note(-1), Math.max(0, 4 - ignore));
            checks.due("the latest", desk.note(0), ignore < 4 ? 13 : 0);
            checks.due("the first", desk.note(3 - Math.min(3, ignore)), ignore < 4 ? 10 + ignore : 0);
        }
    }

    private static void aLogNotesTheValueOfItsCondition() {
        int[] values = {Integer.MIN_VALUE, -1, 0, 1, Integer.MAX_VALUE};
        for (int value : values) {
            StopDesk desk = Checks.started("A0{!1;!2;}");
            Checks.stop(desk, 1, "a", 0, true);
            desk.set(0, 0, value);
            checks.due("go with " + value, desk.go(0, 1), 0);
            checks.due("notes with " + value, desk.note(-1), value == 0 ? 0 : 1);
            checks.due("note with " + value, desk.note(0), value);
        }
    }

    // "(0 if it has none)"
    private static void aLogWithoutConditionNotesZero() {
        StopDesk desk = Checks.started("A0{!1;!2;!3;}");
        Checks.stop(desk, 1, "8", 0, true);
        desk.stop(2, 0, true);
        checks.due("go", desk.go(0, 50), 4);
        checks.due("notes", desk.note(-1), 2);
        checks.due("the latest", desk.note(0), 0);
        checks.due("the one before", desk.note(1), 8);
    }

    private static void aLogNeverStops() {
        StopDesk desk = Checks.started("A0{@a<4{a=a+1;}}");
        desk.stop(0, 0, true);
        desk.stop(1, 0, true);
        checks.due("go", desk.go(0, 50), 4);
        checks.due("notes", desk.note(-1), 8);
    }

    // "as the lowest frame"
    private static void theCopyIsTheLowestFrame() {
        String down = "A0{a=B(4);}B1{?a{^1+B(a-1);}!a;}";
        for (int depth = 1; depth <= 6; depth++) {
            StopDesk desk = Checks.started(down);
            desk.go(0, (depth - 1) * 2);
            checks.due("depth", desk.depth(), depth);
            for (int frame = 0; frame < depth; frame += 5) {
                gives(desk, frame, "B(3)", 3);
                gives(desk, frame, "B(4)", 4);
                fails(desk, frame, "B(5)", -2);
                fails(desk, frame, "B(6)", -2);
            }
            checks.due("depth", desk.depth(), depth);
        }
        StopDesk desk = Checks.started(down);
        Checks.stop(desk, 1, "B(4)", 9, false);
        Checks.stop(desk, 2, "B(5)", 9, false);
        Checks.stop(desk, 3, "B(4)", 9, false);
        desk.go(0, 10);
        checks.due("depth", desk.depth(), 6);
        checks.due("hits in the frames", desk.hits(1), 5);
        checks.due("hits with a call too many", desk.hits(2), 0);
        checks.due("hits in the sixth frame", desk.hits(3), 1);
    }

    // "a copy of that frame alone"
    private static void theCopyIsOfThatFrameAlone() {
        StopDesk desk = Checks.started("A0{a=3;~{b=B(a+1);}{!e;}}B1{f=a+1;!f;}C1{a=a*2;^a+b;}");
        desk.go(0, 4);
        String before = frames(desk);
        gives(desk, 0, "a", 4);
        gives(desk, 0, "f", 5);
        gives(desk, 1, "a", 3);
        gives(desk, 1, "f", 0);
        gives(desk, 0, "C(a)", 8);
        gives(desk, 1, "C(a)+a", 9);
        checks.due("the frames", frames(desk), before);
    }

    private static String frames(StopDesk desk) {
        StringBuilder all = new StringBuilder();
        for (int frame = 0; frame < desk.depth(); frame++) {
            all.append(desk.line(frame)).append(' ').append(desk.function(frame)).append(':');
            for (int v = 0; v < 6; v++) {
                all.append(' ').append(desk.variable(frame, v));
            }
            all.append('\n');
        }
        return all.toString();
    }

    // "with nothing that is thrown there caught from outside it"
    private static void nothingThrownIsCaughtFromOutside() {
        StopDesk desk = Checks.started("A0{~{a=B();}{e=e;}}B0{~{!1;!2;}{e=9;}}C0{#7;}");
        desk.go(0, 3);
        checks.due("line", desk.line(0), 4);
        String before = frames(desk);
        fails(desk, 0, "C()", -2);
        fails(desk, 1, "C()", -2);
        fails(desk, 0, "1/0", -2);
        fails(desk, 1, "1/0", -2);
        checks.due("the frames", frames(desk), before);
        Checks.stop(desk, 5, "C()", 0, false);
        checks.due("a condition", desk.go(0, 1), 0);
        checks.due("the next line", desk.line(0), 5);
        checks.due("e", desk.variable(0, 4), 0);
        checks.due("put out", desk.output(0), 1);
    }

    // "it fails if something is thrown that is not caught by a try in a call"
    private static void aTryInACallCatches() {
        StopDesk desk = Checks.started("A0{!1;}B1{~{^1/a;}{^e;}}C1{~{^D(a);}{^0-e;}}D1{?a=0{#8;}^a;}");
        gives(desk, 0, "B(0)", 1001);
        gives(desk, 0, "B(1)", 1);
        gives(desk, 0, "C(0)", -8);
        gives(desk, 0, "C(1)", 1);
        gives(desk, 0, "D(1)", 1);
        fails(desk, 0, "D(0)", -2);
        fails(desk, 0, "C(0)+D(0)", -2);
        fails(desk, 0, "C(D(0))", -2);
        fails(desk, 0, "B(1/0)", -2);
        gives(desk, 0, "C(0)+B(0)+C(1)", 994);
    }

    // "what is put out is lost"
    private static void whatIsPutOutIsLost() {
        StopDesk desk = Checks.started("A0{!1;!2;}B0{!7;!8;^9;}");
        gives(desk, 0, "B()", 9);
        checks.due("put out by evaluate", desk.output(-1), 0);
        Checks.stop(desk, 1, "B()", 0, true);
        desk.go(0, 1);
        checks.due("put out", desk.output(-1), 1);
        checks.due("the latest", desk.output(0), 1);
        checks.due("noted", desk.note(0), 9);
    }

    // "breaks don't count"
    private static void breaksDontCountAside() {
        StopDesk desk = Checks.started("A0{!1;!2;!B();}B0{!7;^9;}");
        desk.stop(3, 0, false);
        Checks.stop(desk, 4, "5", 0, true);
        gives(desk, 0, "B()", 9);
        Checks.stop(desk, 1, "B()", 0, true);
        checks.due("go", desk.go(0, 2), 0);
        checks.due("hits(3)", desk.hits(3), 0);
        checks.due("hits(4)", desk.hits(4), 0);
        checks.due("notes", desk.note(-1), 1);
        checks.due("outside they do", desk.go(0, 1), 1);
        checks.due("hits(3)", desk.hits(3), 1);
    }

    // "or if more than 100 points are passed in calls"
    private static void itFailsIfMoreThan100PointsArePassed() {
        StopDesk desk = Checks.started(PASSING);
        gives(desk, 0, "B(48)", 5);
        gives(desk, 0, "B(48)+C()", 11);
        gives(desk, 0, "B(49)", 5);
        fails(desk, 0, "B(49)+C()", -3);
        fails(desk, 0, "B(50)", -3);
        fails(desk, 0, "B(999)", -3);
        gives(desk, 0, "B(49)", 5);
        checks.due("points outside", desk.points(), 0);
    }

    private static void pointsOfAllCallsCountTogether() {
        StopDesk desk = Checks.started(PASSING);
        gives(desk, 0, "B(24)+B(24)", 10);
        fails(desk, 0, "B(24)+B(24)+C()", -3);
        gives(desk, 0, "B(47)+B(C()-6)+C()", 16);
        fails(desk, 0, "B(47)+B(C()-6)+C()+C()", -3);
        gives(desk, 0, "B(B(42)+1)", 5);
        fails(desk, 0, "B(B(42)+1)+C()", -3);
        gives(desk, 0, "B(49)+D()+D()", 5);
        gives(desk, 0, "D()+B(49)", 5);
    }

    private static void aTryDoesNotCatchThePoints() {
        StopDesk desk = Checks.started("A0{!1;}B0{~{@1{}}{^1;}}C0{~{^B();}{^2;}}");
        fails(desk, 0, "B()", -3);
        fails(desk, 0, "C()", -3);
    }

    private static void whatFailsFirstIsTold() {
        StopDesk desk = Checks.started("A0{!1;}B1{@a{a=a-1;}^5;}C0{#6;}");
        fails(desk, 0, "B(48)+C()", -2);
        fails(desk, 0, "B(49)/0", -2);
        fails(desk, 0, "B(50)/0", -3);
        fails(desk, 0, "1/0+B(50)", -2);
        fails(desk, 0, "C()+B(50)", -2);
        fails(desk, 0, "B(50)+C()", -3);
    }

    // "A condition that fails counts as 0."
    private static void aConditionThatThrowsCountsAsZero() {
        int[] divisors = {-1, 0, 1};
        for (int divisor : divisors) {
            StopDesk desk = Checks.started("A0{!1;!2;}");
            Checks.stop(desk, 1, "1/a", 0, false);
            desk.set(0, 0, divisor);
            desk.watch(true);
            checks.due("go with " + divisor, desk.go(0, 1), divisor == 0 ? 0 : 1);
            checks.due("hits with " + divisor, desk.hits(1), divisor == 0 ? 0 : 1);
        }
        StopDesk desk = Checks.started("A0{!1;!2;!3;}B0{#7;}");
        Checks.stop(desk, 1, "B()+1", 0, false);
        Checks.stop(desk, 2, "5+B()", 0, true);
        checks.due("go", desk.go(0, 50), 4);
        checks.due("hits(1)", desk.hits(1), 0);
        checks.due("hits(2)", desk.hits(2), 0);
        checks.due("notes", desk.note(-1), 0);
    }

    private static void aConditionWithTooManyPointsCountsAsZero() {
        String[] conditions = {"B(48)+C()", "B(49)", "B(49)+C()", "B(50)"};
        for (int i = 0; i < conditions.length; i++) {
            StopDesk desk = Checks.started(PASSING);
            Checks.stop(desk, 1, conditions[i], 0, false);
            Checks.stop(desk, 2, conditions[i], 0, true);
            checks.due("go to " + conditions[i], desk.go(0, 1), i < 2 ? 1 : 0);
            checks.due("hits with " + conditions[i], desk.hits(1), i < 2 ? 1 : 0);
            checks.due("go to the log", desk.go(0, 1), 0);
            checks.due("notes with " + conditions[i], desk.note(-1), i < 2 ? 1 : 0);
        }
    }

    // "A call that is refused changes nothing but the text, where it takes it."
    private static StopDesk busy() {
        StopDesk desk = Checks.started("A0{a=3;!a;!4;a=B(5);}B1{!6;!7;}C0{@1{}}");
        Checks.stop(desk, 1, "a+5", 0, true);
        desk.stop(5, 1, false);
        Checks.evaluate(desk, 0, "42");
        desk.go(0, 5);
        return desk;
    }

    private static void aRefusedCallChangesNothing() {
        StopDesk desk = busy();
        checks.due("depth", desk.depth(), 2);
        String before = Checks.seen(desk);
        checks.due("load", Checks.load(desk, "A1{}"), -1);
        checks.due("stop(7)", Checks.stop(desk, 7, "1", 0, true), false);
        checks.due("stop, ignore -1", Checks.stop(desk, 1, "1", -1, true), false);
        checks.due("stop 1+", Checks.stop(desk, 5, "1+", 0, true), false);
        checks.due("unstop(2)", desk.unstop(2), -1);
        checks.due("unstop(7)", desk.unstop(7), -1);
        checks.due("go(4, 1)", desk.go(4, 1), -1);
        checks.due("go(0, 51)", desk.go(0, 51), -1);
        checks.due("set(2, 0)", desk.set(2, 0, 99), false);
        checks.due("set(0, 6)", desk.set(0, 6, 99), false);
        checks.due("evaluate(2)", Checks.evaluate(desk, 2, "1"), -1);
        checks.due("evaluate 1+", Checks.evaluate(desk, 0, "1+"), -1);
        checks.due("evaluate 1/0", Checks.evaluate(desk, 0, "1/0"), -2);
        checks.due("evaluate without an end", Checks.evaluate(desk, 0, "C()"), -3);
        checks.due("write", desk.write((char) 127), false);
        checks.due("what is seen", Checks.seen(desk), before);
    }

    private static void aRefusedCallChangesNothingThatIsHidden() {
        StopDesk desk = Checks.started("A0{@a<9{a=a+1;~{#a;}{}}}");
        desk.watch(true);
        Checks.stop(desk, 1, "a=1", 1, false);
        Checks.load(desk, "A0{!1;");
        Checks.stop(desk, 1, "1", -1, true);
        Checks.stop(desk, 1, "1+", 0, true);
        Checks.stop(desk, 5, "1", 0, true);
        checks.due("throws are watched still", desk.go(0, 50), 3);
        checks.due("a", desk.variable(0, 0), 1);
        checks.due("the condition holds once", desk.go(0, 1), 0);
        checks.due("hits", desk.hits(1), 1);
        desk.set(0, 0, 1);
        desk.watch(false);
        checks.due("go", desk.go(0, 50), 4);
        checks.due("hits", desk.hits(1), 1);
        desk.start();
        desk.go(0, 5);
        checks.due("hits", desk.hits(1), 1);
        desk.set(0, 0, 0);
        checks.due("the second is not ignored", desk.go(0, 50), 1);
        checks.due("no log", desk.note(-1), 0);
        checks.due("start of the older program", desk.start(), 1);
    }

    // "Where several refusals are named with one call, the first that holds, in the order named, is answered."
    private static void theFirstRefusalIsAnswered() {
        StopDesk desk = Checks.started("A0{!1;}B0{@1{}}");
        fails(desk, 1, "1/0", -1);
        fails(desk, 1, "B()", -1);
        fails(desk, 1, "1+", -1);
        fails(desk, 0, "1/0+", -1);
        fails(desk, 0, "B()+B(1)", -1);
        fails(desk, 0, "1/0+B()", -2);
        fails(desk, 0, "B()/0", -3);
        checks.due("go(4, 51)", desk.go(4, 51), -1);
        checks.due("stop", Checks.stop(desk, 3, "1+", -1, false), false);
    }
}
