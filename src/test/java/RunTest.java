/** Promises 4 to 6, 12 and 20: start, state, result, points and output, and how running goes. */
public final class RunTest {
    private static final Checks checks = new Checks();

    public static void main(String[] args) {
        startAnswersTheState();
        startBeginsAnew();
        startLooksAtNoBreak();
        stateTellsWhereRunningIs();
        pointsAreCounted();
        outputIsKept();
        expressionsGoFromTheLeft();
        numbersWrap();
        argumentsGoFromTheLeft();
        framesBeginWithTheirParameters();
        callsHaveTheValueOfTheReturn();
        blocksAreRunIfAndWhile();
        throwsEndTries();
        throwsGoOnFromSecondBlocks();
        throwsGoOnToTheCall();
        divisionByZeroThrows();
        theSeventhFrameThrows();
        returnsLeaveTries();
        checks.end();
    }

    private static void over(String program, int result) {
        StopDesk desk = Checks.started(program);
        checks.due("run " + program, Checks.runOut(desk), 4);
        checks.due("state of " + program, desk.state(), 2);
        checks.due("result of " + program, desk.result(), result);
    }

    private static void dead(String program, int result) {
        StopDesk desk = Checks.started(program);
        checks.due("run " + program, Checks.runOut(desk), 5);
        checks.due("state of " + program, desk.state(), 3);
        checks.due("result of " + program, desk.result(), result);
    }

    /** The values that a program puts out, the earliest first. */
    private static void puts(String program, int... values) {
        StopDesk desk = Checks.started(program);
        Checks.runOut(desk);
        checks.due("count of " + program, desk.output(-1), values.length);
        for (int i = 0; i < values.length; i++) {
            checks.due("output " + i + " of " + program, desk.output(values.length - 1 - i), values[i]);
        }
    }

    private static void startAnswersTheState() {
        checks.due("start of none", new StopDesk().start(), -1);
        checks.due("start", Checks.loaded("A0{!1;}").start(), 1);
        StopDesk empty = Checks.loaded("A0{}");
        checks.due("start of an empty one", empty.start(), 2);
        checks.due("its state", empty.state(), 2);
        checks.due("its result", empty.result(), 0);
        checks.due("its points", empty.points(), 0);
        StopDesk refused = new StopDesk();
        Checks.load(refused, "A0{");
        checks.due("start after a refused load", refused.start(), -1);
        StopDesk later = Checks.started("B0{!1;}A0{!2;}");
        checks.due("the first point is A's", later.line(0), 1);
        checks.due("its function", later.function(0), 0);
    }

    private static void startBeginsAnew() {
        StopDesk desk = Checks.started("A0{a=a+1;!a;b=5;!b;}");
        Checks.stop(desk, 1, "", 5, true);
        Checks.stop(desk, 2, "a", 0, true);
        desk.go(0, 3);
        desk.set(0, 0, 9);
        Checks.evaluate(desk, 0, "a");
        checks.due("output", desk.output(-1), 1);
        checks.due("note", desk.note(-1), 1);
        checks.due("hits", desk.hits(1), 1);
        checks.due("start", desk.start(), 1);
        checks.due("output", desk.output(-1), 0);
        checks.due("output", desk.output(0), 0);
        checks.due("note", desk.note(-1), 0);
        checks.due("note", desk.note(0), 0);
        checks.due("hits", desk.hits(1), 0);
        checks.due("hits", desk.hits(2), 0);
        checks.due("points", desk.points(), 0);
        checks.due("line", desk.line(0), 0);
        checks.due("depth", desk.depth(), 1);
        checks.due("a", desk.variable(0, 0), 0);
        checks.due("b", desk.variable(0, 1), 0);
        checks.due("value stays", desk.value(), 9);
        desk.go(0, 3);
        checks.due("breaks stay", desk.hits(2), 1);
        checks.due("conditions stay", desk.note(0), 1);
        Checks.runOut(desk);
        checks.due("start after the end", desk.start(), 1);
        checks.due("result", desk.result(), 0);
        StopDesk dying = Checks.started("A0{#3;}");
        dying.go(0, 1);
        checks.due("start after death", dying.start(), 1);
        checks.due("result", dying.result(), 0);
        StopDesk watched = Checks.started("A0{~{#3;}{}!1;}");
        watched.watch(true);
        watched.start();
        checks.due("watching stays", watched.go(0, 50), 3);
    }

    private static void startLooksAtNoBreak() {
        StopDesk desk = Checks.loaded("A0{!1;!2;}");
        desk.stop(0, 0, false);
        Checks.stop(desk, 0, "1", 0, true);
        desk.start();
        checks.due("hits", desk.hits(0), 0);
        checks.due("notes", desk.note(-1), 0);
    }

    private static void stateTellsWhereRunningIs() {
        StopDesk desk = new StopDesk();
        checks.due("no program", desk.state(), 0);
        Checks.load(desk, "A0{!1;^6;}");
        checks.due("not started", desk.state(), 0);
        desk.start();
        checks.due("waits", desk.state(), 1);
        checks.due("result while it waits", desk.result(), 0);
        desk.go(0, 1);
        checks.due("waits again", desk.state(), 1);
        desk.go(0, 1);
        checks.due("over", desk.state(), 2);
        checks.due("result", desk.result(), 6);
        Checks.load(desk, "A0{#9;}");
        desk.start();
        desk.go(0, 1);
        checks.due("dead", desk.state(), 3);
        checks.due("result", desk.result(), 9);
    }

    private static void pointsAreCounted() {
        StopDesk desk = Checks.loaded("A0{a=3;@a{a=a-1;}!B();}B0{^C();}C0{}");
        checks.due("before the start", desk.points(), 0);
        desk.start();
        checks.due("at the first point", desk.points(), 0);
        desk.go(1, 50);
        checks.due("one", desk.points(), 1);
        Checks.evaluate(desk, 0, "B()+B()");
        checks.due("aside does not count", desk.points(), 1);
        desk.go(0, 3);
        checks.due("four", desk.points(), 4);
        Checks.runOut(desk);
        checks.due("a while again and again, an empty function none", desk.points(), 10);
        desk.go(0, 50);
        checks.due("a refused go", desk.points(), 10);
        StopDesk dying = Checks.started("A0{#1;}");
        dying.go(0, 50);
        checks.due("the point that dies", dying.points(), 1);
    }

    private static void outputIsKept() {
        StopDesk desk = Checks.started("A0{@a<20{a=a+1;!a*10;}}");
        desk.go(0, 7);
        checks.due("count", desk.output(-1), 2);
        checks.due("latest", desk.output(0), 20);
        checks.due("earlier", desk.output(1), 10);
        checks.due("none there", desk.output(2), 0);
        Checks.runOut(desk);
        checks.due("count beyond what is kept", desk.output(-1), 20);
        for (int k = 0; k < 16; k++) {
            checks.due("output(" + k + ")", desk.output(k), (20 - k) * 10);
        }
        checks.due("output(16)", desk.output(16), 0);
        checks.due("output(19)", desk.output(19), 0);
        checks.due("output(-2)", desk.output(-2), 0);
        checks.due("output(MAX)", desk.output(Integer.MAX_VALUE), 0);
        checks.due("output(MIN)", desk.output(Integer.MIN_VALUE), 0);
    }

    private static void expressionsGoFromTheLeft() {
        over("A0{^1+2*3;}", 9);
        over("A0{^10-2-3;}", 5);
        over("A0{^10-(2-3);}", 11);
        over("A0{^7/2*2;}", 6);
        over("A0{^(0-7)/2;}", -3);
        over("A0{^7/(0-2);}", -3);
        over("A0{^2<3;}", 1);
        over("A0{^3<3;}", 0);
        over("A0{^(0-1)<0;}", 1);
        over("A0{^3=3;}", 1);
        over("A0{^3=4;}", 0);
        over("A0{^3<2=0;}", 1);
        over("A0{^1=1+1;}", 2);
        over("A0{^2<3<1;}", 0);
        over("A0{^007;}", 7);
        over("A0{^999;}", 999);
        over("A0{a=1;b=2;c=3;d=4;e=5;f=6;^a*10+b*10+c*10+d*10+e*10+f;}", 123456);
        over("A0{a=5;^a=5;}", 1);
    }

    private static void numbersWrap() {
        String power = "A0{a=1;@b<31{a=a*2;b=b+1;}";
        over(power + "^a;}", Integer.MIN_VALUE);
        over(power + "^a-1;}", Integer.MAX_VALUE);
        over(power + "^a-1+1;}", Integer.MIN_VALUE);
        over(power + "^a/(0-1);}", Integer.MIN_VALUE);
        over(power + "^a*2;}", 0);
        over(power + "^a-1*3;}", Integer.MAX_VALUE * 3);
    }

    private static void argumentsGoFromTheLeft() {
        puts("A0{!B(C(1),C(2),C(3));}B3{^a*10+b*10+c;}C1{!a;^a+3;}", 1, 2, 3, 456);
        puts("A0{!C(1)-C(2);}C1{!a;^a;}", 1, 2, -1);
        puts("A0{!5-B(7-B(1,2),4-B(1,1));}B2{^a-b;}", 5 - ((7 - (1 - 2)) - (4 - 0)));
        puts("A0{!B(1,B(2,B(3,B(4,B(5,6)))));}B2{^a*2-b;}", 2 - (4 - (6 - (8 - (10 - 6)))));
    }

    private static void framesBeginWithTheirParameters() {
        puts("A0{a=9;b=9;c=9;d=9;e=9;f=9;a=B(1,2);a=B(3,4);}B2{!a+c+d+e+f;!b;c=8;d=8;e=8;f=8;}", 1, 2, 3, 4);
        puts("A0{a=1;b=B();!a;}B0{!a;a=7;}", 0, 1);
        puts("A0{a=B(1,2,3);}B3{!a;!b;!c;!d;!e;!f;}", 1, 2, 3, 0, 0, 0);
        puts("A0{!a;!b;!c;!d;!e;!f;}", 0, 0, 0, 0, 0, 0);
    }

    private static void callsHaveTheValueOfTheReturn() {
        over("A0{a=5;}", 0);
        over("A0{^5;!1;}", 5);
        over("A0{^B()+B();}B0{^21;!1;}", 42);
        over("A0{^5-B();}B0{}", 5);
        over("A0{^1+B();}B0{a=6;}", 1);
        over("A0{^1+B();}B0{@1{?1{^4;}}}", 5);
        over("A0{^B(4);}B1{?a<2{^1;}^a*B(a-1);}", 24);
        over("A0{^B(2);}B1{?a<1{^0;}^a+C(a-1);}C1{^B(a);}", 3);
    }

    private static void blocksAreRunIfAndWhile() {
        puts("A0{?0{!1;}?5{!2;}?0-1{!3;}}", 2, 3);
        puts("A0{a=3;@a{!a;a=a-1;}!9;}", 3, 2, 1, 9);
        puts("A0{@0{!1;}!2;}", 2);
        puts("A0{a=2;@a{b=2;@b{!a*10+b;b=b-1;}a=a-1;}}", 22, 21, 12, 11);
        puts("A0{?1{?0{!1;}!2;}!3;}", 2, 3);
    }

    private static void throwsEndTries() {
        puts("A0{~{!1;#7;!2;}{!e;}!3;}", 1, 7, 3);
        puts("A0{~{!1;}{!2;}!3;}", 1, 3);
        puts("A0{~{}{!2;}!3;}", 3);
        puts("A0{e=5;~{!1;}{}!e;}", 1, 5);
        puts("A0{~{#7;}{}!e;}", 7);
        puts("A0{~{#0;}{!1;}!e;}", 1, 0);
        puts("A0{~{~{#7;}{!e;}!1;}{!2;}}", 7, 1);
        puts("A0{~{?1{@1{#4;}}}{!e;}}", 4);
        puts("A0{@a<3{a=a+1;~{#a;}{!e*10;}}}", 10, 20, 30);
        puts("A0{~{@1/0{}}{!e;}~{?1/0{}}{!e+1;}~{a=1/0;}{!a;}}", 1001, 1002, 0);
        dead("A0{#7;}", 7);
        dead("A0{?1{#7;}}", 7);
    }

    private static void throwsGoOnFromSecondBlocks() {
        dead("A0{~{#1;}{#2;}}", 2);
        puts("A0{~{~{#1;}{#2;}!9;}{!e;}}", 2);
        puts("A0{~{~{#1;}{~{#2;}{!e;}#3;}}{!e;}}", 2, 3);
        puts("A0{~{#1;}{~{#2;}{!e;}!4;}!5;}", 2, 4, 5);
        dead("A0{~{#1;}{}#6;}", 6);
    }

    private static void throwsGoOnToTheCall() {
        puts("A0{d=3;~{a=B(1);!8;}{!e;!d;}}B1{!a;b=1+C();!9;}C0{#5;}", 1, 5, 3);
        puts("A0{~{a=B();}{!e;}}B0{~{!1;}{}#4;}", 1, 4);
        puts("A0{~{a=B();}{!e+1;}}B0{~{a=C();}{!e;#20;}}C0{#10;}", 10, 21);
        dead("A0{~{!1;}{}a=B();}B0{#8;}", 8);
        puts("A0{a=1+B(2+3)*2;!a;}B1{~{b=1+(2*(3+C()));}{^e;}}C0{#a+4;}", (1 + 4) * 2);
        puts("A0{@a<3{a=a+1;~{b=1+(2+(3+B(4,5)));}{}!a;}}B2{#1;}", 1, 2, 3);
        puts("A0{@a<99{a=a+1;~{b=1+(2+(3+B(4,5)));}{}}!7-(8-9);}B2{#1;}", 8);
    }

    private static void divisionByZeroThrows() {
        dead("A0{^1/0;}", 1001);
        dead("A0{a=5;^3/(a-5);}", 1001);
        puts("A0{~{!1/a;}{!e;}!2;}", 1001, 2);
        over("A0{^0/5;}", 0);
    }

    private static void theSeventhFrameThrows() {
        dead("A0{a=A();}", 1002);
        over("A0{^B(4);}B1{?a{^1+B(a-1);}}", 4);
        dead("A0{^B(5);}B1{?a{^1+B(a-1);}}", 1002);
        puts("A0{~{a=B(1);}{!e;}}B1{a=B(C(a));}C1{!a;^a+1;}", 1, 2, 3, 4, 1002);
        puts("A0{~{a=B(1);}{!e;}}B1{a=B(a/0);}", 1001);
        puts("A0{!B(5);}B1{~{^B(a-1)+10;}{^e;}}", 1002 + 40);
    }

    private static void returnsLeaveTries() {
        dead("A0{a=B();#3;}B0{~{^1;}{}}", 3);
        over("A0{~{^4;}{^5;}}", 4);
        puts("A0{~{a=B();#3;}{!e;!a;}}B0{~{~{^1;}{!7;}}{!8;}}", 3, 1);
    }
}
