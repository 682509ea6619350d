/** Promises 13 to 17: depth, line, function, variable and set. */
public final class FrameTest {
    private static final String CALLING = "A0{a=1;f=D(a+1,7,8)+1;!f;}D3{d=4;~{e=B()+e;}{}}B0{c=9;!c;}";

    private static final Checks checks = new Checks();

    public static void main(String[] args) {
        framesAreThereWhileTheMachineWaits();
        aFrameBelowHasTheLineOfItsCall();
        framesAreCountedFromTheTop();
        variablesAreThoseOfTheirFrame();
        setChangesAVariable();
        setWorksInFramesBelow();
        setRefuses();
        framesAreGoneAfterAThrow();
        linesAreNumberedByTheirFirstCharacters();
        checks.end();
    }

    private static StopDesk inThreeFrames() {
        StopDesk desk = Checks.started(CALLING);
        desk.go(0, 5);
        return desk;
    }

    private static void framesAreThereWhileTheMachineWaits() {
        StopDesk desk = Checks.loaded(CALLING);
        checks.due("not started", desk.depth(), 0);
        checks.due("line", desk.line(0), -1);
        checks.due("function", desk.function(0), -1);
        desk.start();
        checks.due("started", desk.depth(), 1);
        desk.go(0, 2);
        checks.due("in D", desk.depth(), 2);
        Checks.runOut(desk);
        checks.due("over", desk.depth(), 0);
        checks.due("line", desk.line(0), -1);
        checks.due("function", desk.function(0), -1);
        checks.due("variable", desk.variable(0, 5), 0);
        checks.due("set", desk.set(0, 5, 1), false);
        StopDesk dead = Checks.started("A0{a=4;b=B();}B0{a=5;#a;}");
        dead.go(0, 50);
        checks.due("dead", dead.depth(), 0);
        checks.due("line", dead.line(0), -1);
        checks.due("function", dead.function(0), -1);
        checks.due("variable", dead.variable(0, 0), 0);
        checks.due("set", dead.set(0, 0, 1), false);
        StopDesk six = Checks.started("A0{a=A();}");
        six.go(0, 5);
        checks.due("six", six.depth(), 6);
        checks.due("the lowest", six.line(5), 0);
        checks.due("below it", six.line(6), -1);
    }

    private static void aFrameBelowHasTheLineOfItsCall() {
        StopDesk desk = inThreeFrames();
        checks.due("depth", desk.depth(), 3);
        checks.due("line(0)", desk.line(0), 6);
        checks.due("line(1)", desk.line(1), 5);
        checks.due("line(2)", desk.line(2), 1);
        desk.go(0, 1);
        checks.due("line(0)", desk.line(0), 7);
        checks.due("line(1)", desk.line(1), 5);
        desk.go(0, 1);
        checks.due("line(0)", desk.line(0), 2);
        StopDesk looping = Checks.started("A0{@B(a)<3{a=a+1;}}B1{^a;}");
        looping.go(0, 1);
        checks.due("the call in a while", looping.line(1), 0);
        looping.go(0, 1);
        checks.due("its block", looping.line(0), 1);
        looping.go(0, 2);
        checks.due("the while again", looping.line(1), 0);
    }

    private static void framesAreCountedFromTheTop() {
        StopDesk desk = inThreeFrames();
        checks.due("function(0)", desk.function(0), 1);
        checks.due("function(1)", desk.function(1), 3);
        checks.due("function(2)", desk.function(2), 0);
        int[] none = {-1, 3, 6, Integer.MAX_VALUE, Integer.MIN_VALUE};
        for (int frame : none) {
            checks.due("line(" + frame + ")", desk.line(frame), -1);
            checks.due("function(" + frame + ")", desk.function(frame), -1);
            checks.due("variable(" + frame + ", 0)", desk.variable(frame, 0), 0);
        }
        StopDesk c = Checks.started("A0{a=C();}C0{!1;}");
        c.go(0, 1);
        checks.due("C", c.function(0), 2);
    }

    private static void variablesAreThoseOfTheirFrame() {
        StopDesk desk = inThreeFrames();
        desk.go(0, 1);
        int[][] wanted = {{0, 0, 9, 0, 0, 0}, {2, 7, 8, 4, 0, 0}, {1, 0, 0, 0, 0, 0}};
        for (int frame = 0; frame < 3; frame++) {
            for (int v = 0; v < 6; v++) {
                checks.due("variable(" + frame + ", " + v + ")", desk.variable(frame, v), wanted[frame][v]);
            }
        }
        checks.due("variable(1, 6)", desk.variable(1, 6), 0);
        checks.due("variable(1, -1)", desk.variable(1, -1), 0);
        checks.due("variable(1, MAX)", desk.variable(1, Integer.MAX_VALUE), 0);
        checks.due("variable(1, MIN)", desk.variable(1, Integer.MIN_VALUE), 0);
    }

    private static void setChangesAVariable() {
        StopDesk desk = Checks.started("A0{b=a+1;!a+b+c+d+e+f;}");
        checks.due("set", desk.set(0, 0, 5), true);
        checks.due("variable", desk.variable(0, 0), 5);
        checks.due("set", desk.set(0, 5, Integer.MIN_VALUE), true);
        checks.due("variable", desk.variable(0, 5), Integer.MIN_VALUE);
        checks.due("set", desk.set(0, 5, -100), true);
        checks.due("set, to be written over", desk.set(0, 1, 50), true);
        desk.go(0, 50);
        checks.due("output", desk.output(0), 5 + 6 - 100);
        desk.start();
        checks.due("not kept", desk.variable(0, 0), 0);
    }

    private static void setWorksInFramesBelow() {
        StopDesk desk = Checks.started("A0{a=3;b=B(a)+a;!b;!a;}B1{!a;^a;}");
        desk.go(0, 2);
        checks.due("set below", desk.set(1, 0, 100), true);
        checks.due("set on top", desk.set(0, 0, 7), true);
        desk.go(0, 50);
        checks.due("a", desk.output(0), 100);
        checks.due("b", desk.output(1), 107);
        checks.due("B's a", desk.output(2), 7);
    }

    private static void setRefuses() {
        StopDesk desk = inThreeFrames();
        checks.due("frame -1", desk.set(-1, 0, 1), false);
        checks.due("frame 3", desk.set(3, 0, 1), false);
        checks.due("frame MAX", desk.set(Integer.MAX_VALUE, 0, 1), false);
        checks.due("frame MIN", desk.set(Integer.MIN_VALUE, 0, 1), false);
        checks.due("variable -1", desk.set(0, -1, 1), false);
        checks.due("variable 6", desk.set(0, 6, 1), false);
        checks.due("variable MAX", desk.set(0, Integer.MAX_VALUE, 1), false);
        checks.due("variable MIN", desk.set(0, Integer.MIN_VALUE, 1), false);
        for (int v = 0; v < 6; v++) {
            checks.due("variable(0, " + v + ")", desk.variable(0, v), 0);
        }
        StopDesk idle = Checks.loaded(CALLING);
        checks.due("not started", idle.set(0, 0, 1), false);
    }

    private static void framesAreGoneAfterAThrow() {
        StopDesk desk = Checks.started("A0{a=2;~{b=5+(6*B(1));}{!e;}!b;}B1{f=C();}C0{#44;}");
        desk.go(0, 4);
        checks.due("depth", desk.depth(), 3);
        desk.go(0, 1);
        checks.due("depth", desk.depth(), 1);
        checks.due("line", desk.line(0), 3);
        checks.due("function", desk.function(0), 0);
        checks.due("a stays", desk.variable(0, 0), 2);
        checks.due("b is not given a value", desk.variable(0, 1), 0);
        checks.due("e", desk.variable(0, 4), 44);
        checks.due("f is not B's", desk.variable(0, 5), 0);
    }

    private static void linesAreNumberedByTheirFirstCharacters() {
        StopDesk desk = Checks.started("B0{!1;}A0{?1{@a<1{a=a+1;}}~{b=2;#B();}{c=3;}^4;}");
        int[] lines = {1, 2, 3, 2, 4, 5, 6, 0, 7, 8};
        for (int i = 0; i < lines.length; i++) {
            checks.due("line at point " + i, desk.line(0), lines[i]);
            desk.go(1, 1);
        }
        checks.due("result", desk.result(), 4);
    }
}
