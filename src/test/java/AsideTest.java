/** Promises 18 and 19: evaluate and value, and how expressions are worked out aside. */
public final class AsideTest {
    private static final Checks checks = new Checks();

    public static void main(String[] args) {
        evaluateWorksOutInAFrame();
        evaluateNeedsAFrame();
        evaluateNeedsAnExpression();
        evaluateTakesTheText();
        evaluateLeavesNoTrace();
        theCopyIsTheLowestFrame();
        throwsFailUnlessCaughtInACall();
        whatFailsLeavesNothingBehind();
        aHundredPointsMayBePassed();
        throwsWithinTheHundredAreThrows();
        valueIsThatOfTheLatestThatAnswered();
        evaluateWaitsForNoBreak();
        checks.end();
    }

    private static void gives(StopDesk desk, int frame, String expression, int value) {
        checks.due("evaluate " + expression, Checks.evaluate(desk, frame, expression), 0);
        checks.due("value of " + expression, desk.value(), value);
    }

    private static void evaluateWorksOutInAFrame() {
        StopDesk desk = Checks.started("A0{a=3;b=4;c=B(5);}B1{d=6;!a;}");
        desk.go(0, 4);
        gives(desk, 0, "a*10+d", 56);
        gives(desk, 1, "a*10+b", 34);
        gives(desk, 1, "d", 0);
        gives(desk, 0, "B(a)+B(B(7))", 0);
        gives(desk, 1, "1+2*3-(4/2)<8=1", 1);
        gives(desk, 1, "999", 999);
        desk.set(1, 0, -8);
        gives(desk, 1, "a/3", -2);
    }

    private static void evaluateNeedsAFrame() {
        StopDesk desk = new StopDesk();
        checks.due("no program", Checks.evaluate(desk, 0, "1"), -1);
        Checks.load(desk, "A0{!1;}");
        checks.due("not started", Checks.evaluate(desk, 0, "1"), -1);
        desk.start();
        checks.due("frame 0", Checks.evaluate(desk, 0, "1"), 0);
        checks.due("frame 1", Checks.evaluate(desk, 1, "1"), -1);
        checks.due("frame -1", Checks.evaluate(desk, -1, "1"), -1);
        checks.due("frame MAX", Checks.evaluate(desk, Integer.MAX_VALUE, "1"), -1);
        checks.due("frame MIN", Checks.evaluate(desk, Integer.MIN_VALUE, "1"), -1);
        checks.due("no frame is told before a throw", Checks.evaluate(desk, 1, "1/0"), -1);
        desk.go(0, 1);
        checks.due("over", Checks.evaluate(desk, 0, "1"), -1);
        StopDesk dead = Checks.started("A0{#1;}");
        dead.go(0, 1);
        checks.due("dead", Checks.evaluate(dead, 0, "1"), -1);
    }

    private static void evaluateNeedsAnExpression() {
        StopDesk desk = Checks.started("A0{!1;}B1{^a;}");
        String[] none = {
            "", " ", "1 ", "a=1;", "!1;", "g", "C()", "B()", "B(1,2)", "((((((1))))))", "1+", "1000", "1)",
            "1/0+", "A0{}", "B(B(B(B(B(B(1))))))"
        };
        for (String text : none) {
            checks.due("evaluate " + text, Checks.evaluate(desk, 0, text), -1);
        }
        checks.due("value", desk.value(), 0);
        gives(desk, 0, "B(B(B(B(B(8)))))", 8);
        gives(desk, 0, "(((((8)))))", 8);
        gives(desk, 0, Checks.repeat("1+", 74) + "10", 84);
    }

    private static void evaluateTakesTheText() {
        StopDesk desk = Checks.started("A0{!1;}");
        Checks.evaluate(desk, 0, "1");
        checks.due("nothing is left", desk.evaluate(0), -1);
        Checks.evaluate(desk, 5, "((");
        checks.due("nothing is left of one without a frame", Checks.evaluate(desk, 0, "1"), 0);
        Checks.evaluate(desk, 0, "((");
        checks.due("nothing is left of a refused one", Checks.evaluate(desk, 0, "1"), 0);
        Checks.evaluate(desk, 0, "1/0");
        checks.due("nothing is left of a failed one", Checks.evaluate(desk, 0, "1"), 0);
        StopDesk empty = new StopDesk();
        Checks.evaluate(empty, 0, "A0");
        checks.due("nothing is left where no program is", Checks.load(empty, "A0{}"), 0);
    }

    private static void evaluateLeavesNoTrace() {
        StopDesk desk = Checks.started("A0{a=1;~{b=B(a);}{!e;}}B1{!a;^C(a);}C1{~{#9;}{}d=1;^a+d;}");
        desk.stop(4, 0, false);
        desk.watch(true);
        desk.go(0, 50);
        checks.due("line", desk.line(0), 4);
        int before = desk.points();
        gives(desk, 0, "B(5)+C(6)", 13);
        gives(desk, 1, "a+B(5)", 7);
        checks.due("evaluate", Checks.evaluate(desk, 1, "1/0"), -2);
        checks.due("state", desk.state(), 1);
        checks.due("points", desk.points(), before);
        checks.due("depth", desk.depth(), 2);
        checks.due("line(0)", desk.line(0), 4);
        checks.due("line(1)", desk.line(1), 2);
        checks.due("output", desk.output(-1), 0);
        checks.due("hits", desk.hits(4), 1);
        checks.due("e", desk.variable(1, 4), 0);
        checks.due("go", desk.go(0, 1), 0);
        checks.due("output", desk.output(0), 1);
        checks.due("go", desk.go(0, 50), 3);
        checks.due("go", desk.go(0, 50), 4);
    }

    private static void theCopyIsTheLowestFrame() {
        StopDesk desk = Checks.started("A0{a=B(4);}B1{?a{^1+B(a-1);}!a;}");
        desk.go(0, 10);
        checks.due("depth", desk.depth(), 6);
        gives(desk, 0, "B(4)", 4);
        gives(desk, 5, "B(4)", 4);
        checks.due("a seventh frame", Checks.evaluate(desk, 0, "B(5)"), -2);
        checks.due("a seventh frame", Checks.evaluate(desk, 5, "B(5)"), -2);
    }

    private static void throwsFailUnlessCaughtInACall() {
        StopDesk desk = Checks.started("A0{~{!1;!2;}{!3;}}B0{#7;}C0{~{^B();}{^e;}}D1{~{^1/a;}{#e;}}");
        desk.go(0, 1);
        checks.due("a throw", Checks.evaluate(desk, 0, "B()"), -2);
        gives(desk, 0, "C()+1", 8);
        checks.due("a division", Checks.evaluate(desk, 0, "1/0"), -2);
        checks.due("a division behind a call", Checks.evaluate(desk, 0, "C()/a"), -2);
        checks.due("thrown on from a second block", Checks.evaluate(desk, 0, "D(0)"), -2);
        gives(desk, 0, "D(1)", 1);
        for (int i = 0; i < 20; i++) {
            checks.due("again and again", Checks.evaluate(desk, 0, "1+(2+(3+(1/0)))"), -2);
        }
        gives(desk, 0, "7-(8-9)", 8);
        checks.due("not caught outside", desk.line(0), 1);
        checks.due("go", desk.go(0, 50), 4);
        checks.due("output", desk.output(0), 2);
    }

    private static void whatFailsLeavesNothingBehind() {
        StopDesk desk = Checks.started("A0{@1{}}B3{^a*10+b*10+c;}C0{@1{}}");
        String[] failing = {"B(1,2,3+(B(4,5,6+(7/0))))", "B(1,2,3+(B(4,5,6+C())))"};
        for (String condition : failing) {
            Checks.stop(desk, 0, condition, 0, false);
            for (int i = 0; i < 10; i++) {
                checks.due("go", desk.go(0, 50), 0);
            }
            checks.due("hits", desk.hits(0), 0);
            gives(desk, 0, "B(1,2,3+(B(4,5,6+(7-7))))", 579);
        }
    }

    /** B(n) passes 2 * n + 2 points and C() one. */
    private static void aHundredPointsMayBePassed() {
        StopDesk desk = Checks.started("A0{!1;}B1{@a{a=a-1;}^5;}C0{^6;}D0{@1{}}");
        gives(desk, 0, "B(49)", 5);
        checks.due("one more", Checks.evaluate(desk, 0, "B(49)+C()"), -3);
        checks.due("two more", Checks.evaluate(desk, 0, "B(50)"), -3);
        gives(desk, 0, "B(48)+C()+C()", 17);
        gives(desk, 0, "B(20)+B(28)", 10);
        checks.due("in several calls", Checks.evaluate(desk, 0, "B(20)+B(28)+C()"), -3);
        checks.due("without an end", Checks.evaluate(desk, 0, "D()"), -3);
        checks.due("value", desk.value(), 10);
        gives(desk, 0, "B(49)", 5);
        checks.due("points", desk.points(), 0);
    }

    private static void throwsWithinTheHundredAreThrows() {
        StopDesk desk = Checks.started("A0{!1;}B1{@a{a=a-1;}^5;}C0{#6;}");
        checks.due("at the hundredth", Checks.evaluate(desk, 0, "B(49)/0"), -2);
        checks.due("at the 99th", Checks.evaluate(desk, 0, "B(48)+C()"), -2);
        checks.due("at the 101st it has failed before", Checks.evaluate(desk, 0, "B(49)+C()"), -3);
        checks.due("before many points", Checks.evaluate(desk, 0, "1/0+B(99)"), -2);
        checks.due("after many points", Checks.evaluate(desk, 0, "B(99)/0"), -3);
    }

    private static void valueIsThatOfTheLatestThatAnswered() {
        StopDesk desk = Checks.started("A0{!1;!2;}B0{@1{}}");
        checks.due("none yet", desk.value(), 0);
        gives(desk, 0, "12", 12);
        Checks.evaluate(desk, 0, "1/0");
        checks.due("after a throw", desk.value(), 12);
        Checks.evaluate(desk, 0, "B()");
        checks.due("after too many points", desk.value(), 12);
        Checks.evaluate(desk, 0, "(");
        checks.due("after a refusal", desk.value(), 12);
        Checks.stop(desk, 1, "77", 0, true);
        desk.go(0, 1);
        checks.due("after a condition", desk.value(), 12);
        desk.go(0, 1);
        checks.due("when it is over", desk.value(), 12);
        desk.start();
        checks.due("after a start", desk.value(), 12);
        gives(desk, 0, "0-1", -1);
        Checks.load(desk, "A0{");
        checks.due("after a refused load", desk.value(), -1);
        Checks.load(desk, "A0{}");
        checks.due("after a load", desk.value(), 0);
    }

    private static void evaluateWaitsForNoBreak() {
        StopDesk desk = Checks.started("A0{!1;}B0{!2;^3;}");
        desk.stop(1, 0, false);
        Checks.stop(desk, 2, "1", 0, true);
        gives(desk, 0, "B()", 3);
        checks.due("hits", desk.hits(1), 0);
        checks.due("hits", desk.hits(2), 0);
        checks.due("notes", desk.note(-1), 0);
        checks.due("output", desk.output(-1), 0);
    }
}
