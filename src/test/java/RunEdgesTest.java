/**
 * The boundary cases that 'Terms' names for running: each sentence by a test of its own, at the boundary and
 * beside it.
 */
public final class RunEdgesTest {
    private static final int MAX = Integer.MAX_VALUE;
    private static final int MIN = Integer.MIN_VALUE;

    private static final Checks checks = new Checks();

    public static void main(String[] args) {
        aFrameHasSixVariables();
        parametersAreValuesAsFarAsThereAreSuch();
        sumsWrap();
        differencesWrap();
        productsWrap();
        quotientsWrap();
        quotientsAreRoundedTowardsZero();
        lessIsOneOrZero();
        equalIsOneOrZero();
        operatorsAreAllAlike();
        argumentsGoFromTheLeft();
        aBlockWithoutReturnHasTheValueZero();
        anIfRunsItsBlockUnlessZero();
        aWhileRunsItsBlockUnlessZero();
        aTryCatchesInItsFirstBlock();
        framesAboveTheTryAreGone();
        eBecomesWhatWasThrown();
        divisionByZeroThrows1001();
        aCallWithSixFramesThrows1002();
        itThrowsAfterItsArgumentsWereWorkedOut();
        theThrowOf1002IsInTheFrameOfTheCall();
        throwsInSecondBlocksGoOn();
        throwsInNoFirstBlockGoOn();
        runningIsDeadWithWhatWasThrown();
        runningIsOverWithTheValueOfA();
        aPointIsBeforeItsStatement();
        endsOfBlocksAndCallsAreNoPoints();
        aWhileIsAPointAgainAndAgain();
        theLineOfAFrameBelowIsThatOfItsCall();
        checks.end();
    }

    /** The value of an expression with these values of a and b: when it is run, and when it is worked out aside. */
    private static void gives(int a, int b, String expression, int value) {
        StopDesk desk = Checks.started("A0{^" + expression + ";}");
        desk.set(0, 0, a);
        desk.set(0, 1, b);
        String call = expression + " with a " + a + ", b " + b;
        checks.due("evaluate " + call, Checks.evaluate(desk, 0, expression), 0);
        checks.due("value of " + call, desk.value(), value);
        checks.due("run " + call, desk.go(0, 1), 4);
        checks.due("result of " + call, desk.result(), value);
    }

    private static void throwsValue(int a, int b, String expression, int value) {
        StopDesk desk = Checks.started("A0{^" + expression + ";}");
        desk.set(0, 0, a);
        desk.set(0, 1, b);
        String call = expression + " with a " + a + ", b " + b;
        checks.due("evaluate " + call, Checks.evaluate(desk, 0, expression), -2);
        checks.due("run " + call, desk.go(0, 1), 5);
        checks.due("result of " + call, desk.result(), value);
    }

    private static void ends(String program, int answer, int result) {
        StopDesk desk = Checks.started(program);
        checks.due("run " + program, Checks.runOut(desk), answer);
        checks.due("state of " + program, desk.state(), answer - 2);
        checks.due("result of " + program, desk.result(), result);
    }

    private static void over(String program, int result) {
        ends(program, 4, result);
    }

    private static void dead(String program, int result) {
        ends(program, 5, result);
    }

    /** The values that a program puts out, the earliest first. */
    private static void puts(String program, int... values) {
        StopDesk desk = Checks.started(program);
        Checks.runOut(desk);
        checks.due("count of " + program, desk.output(-1), values.length);
        for (int i = 0; i < values.length; i++) {
            checks.due("output " + i + " of " + program, desk.output(values.length - 1 - i), values[i]);
        }
    }

    // "the values of its six variables"
    private static void aFrameHasSixVariables() {
        StopDesk desk = Checks.started("A0{a=1;b=2;c=3;d=4;e=5;f=6;!a;}");
        desk.go(0, 6);
        for (int v = 0; v < 6; v++) {
            checks.due("variable " + v, desk.variable(0, v), v + 1);
        }
    }

    // "a, b, c begin as the values of the parameters, as far as there are such, the others as 0"
    private static void parametersAreValuesAsFarAsThereAreSuch() {
        String[] arguments = {"", "7", "7,8", "7,8,9"};
        for (int count = 0; count <= 3; count++) {
            String program = "A0{a=1;b=1;c=1;d=1;e=1;f=1;a=B(" + arguments[count] + ");a=B(" + arguments[count]
                + ");}B" + count + "{a=a;a=2;b=2;c=2;d=2;e=2;f=2;}";
            StopDesk desk = Checks.started(program);
            for (int call = 0; call < 2; call++) {
                desk.go(0, 7);
                if (call == 1) {
                    desk.go(0, 1);
                }
                checks.due("depth", desk.depth(), 2);
                for (int v = 0; v < 6; v++) {
                    checks.due(program + " variable " + v, desk.variable(0, v), v < count ? 7 + v : 0);
                }
            }
        }
        StopDesk desk = Checks.started("A0{a=a;}");
        for (int v = 0; v < 6; v++) {
            checks.due("variable of A " + v, desk.variable(0, v), 0);
        }
    }

    // "sums, differences, products and quotients wrap"
    private static void sumsWrap() {
        gives(MAX - 1, 1, "a+b", MAX);
        gives(MAX, 0, "a+b", MAX);
        gives(MAX, 1, "a+b", MIN);
        gives(MAX, MAX, "a+b", -2);
        gives(MIN, 0, "a+b", MIN);
        gives(MIN, -1, "a+b", MAX);
        gives(MIN, MIN, "a+b", 0);
    }

    private static void differencesWrap() {
        gives(MIN + 1, 1, "a-b", MIN);
        gives(MIN, 0, "a-b", MIN);
        gives(MIN, 1, "a-b", MAX);
        gives(MAX, -1, "a-b", MIN);
        gives(0, MIN, "a-b", MIN);
        gives(-1, MIN, "a-b", MAX);
        gives(MIN, MIN, "a-b", 0);
    }

    private static void productsWrap() {
        gives(46340, 46340, "a*b", 2147395600);
        gives(46341, 46341, "a*b", -2147479015);
        gives(65536, 32767, "a*b", 2147418112);
        gives(65536, 32768, "a*b", MIN);
        gives(65536, 65536, "a*b", 0);
        gives(MIN, -1, "a*b", MIN);
        gives(MAX, -1, "a*b", -MAX);
        gives(MAX, MAX, "a*b", 1);
        gives(MIN, 2, "a*b", 0);
    }

    private static void quotientsWrap() {
        gives(MIN, -1, "a/b", MIN);
        gives(MIN + 1, -1, "a/b", MAX);
        gives(MIN, 1, "a/b", MIN);
        gives(MIN, -2, "a/b", 1073741824);
        gives(MAX, -1, "a/b", -MAX);
        gives(MAX, MIN, "a/b", 0);
        gives(MIN, MAX, "a/b", -1);
        gives(MIN, MIN, "a/b", 1);
    }

    // "x / y is the quotient rounded towards 0"
    private static void quotientsAreRoundedTowardsZero() {
        int[] left = {5, 6, 7, 8, 9, 2, 3, 4};
        int[] quotient = {1, 2, 2, 2, 3, 0, 1, 1};
        for (int i = 0; i < left.length; i++) {
            gives(left[i], 3, "a/b", quotient[i]);
            gives(-left[i], 3, "a/b", -quotient[i]);
            gives(left[i], -3, "a/b", -quotient[i]);
            gives(-left[i], -3, "a/b", quotient[i]);
        }
    }

    // "x < y and x = y are 1 or 0"
    private static void lessIsOneOrZero() {
        gives(4, 5, "a<b", 1);
        gives(5, 5, "a<b", 0);
        gives(6, 5, "a<b", 0);
        gives(-1, 0, "a<b", 1);
        gives(0, -1, "a<b", 0);
        gives(MIN, MAX, "a<b", 1);
        gives(MAX, MIN, "a<b", 0);
        gives(MIN, MIN, "a<b", 0);
        gives(MIN, MIN + 1, "a<b", 1);
    }

    private static void equalIsOneOrZero() {
        gives(4, 5, "a=b", 0);
        gives(5, 5, "a=b", 1);
        gives(6, 5, "a=b", 0);
        gives(MIN, MIN, "a=b", 1);
        gives(MIN, MAX, "a=b", 0);
        gives(1, -1, "a=b", 0);
        gives(1000, 1000, "a=b", 1);
        gives(65536, 0, "a=b", 0);
    }

    // "from the left to the right, all operators alike: ((t1 op t2) op t3) and so on"
    private static void operatorsAreAllAlike() {
        gives(2, 3, "1+a*b", 9);
        gives(2, 3, "1+(a*b)", 7);
        gives(2, 3, "9-a-b", 4);
        gives(2, 3, "9-(a-b)", 10);
        gives(2, 3, "9/a/b", 1);
        gives(2, 3, "9/a*b", 12);
        gives(2, 3, "1<a+b", 4);
        gives(2, 3, "b=a+1", 1);
        gives(2, 3, "b=(a+1)", 1);
        gives(2, 3, "b=b+1", 2);
        gives(2, 3, "b=(b+1)", 0);
        gives(2, 3, "a<b=1", 1);
        gives(2, 3, "a=b<1", 1);
    }

    // "Arguments are worked out from the left to the right."
    private static void argumentsGoFromTheLeft() {
        puts("A0{!B(C(1),C(2),C(3));}B3{^a*10+b*10+c;}C1{!a;^a+3;}", 1, 2, 3, 456);
        puts("A0{~{!B(C(1),1/0,C(2));}{!e;}}B3{!9;}C1{!a;}", 1, 1001);
        puts("A0{!C(1)-C(2)*C(3);}C1{!a;^a;}", 1, 2, 3, -3);
    }

    // "its value is that of the return, 0 if the block ends without one"
    private static void aBlockWithoutReturnHasTheValueZero() {
        checks.due("result of an empty A", Checks.started("A0{}").result(), 0);
        over("A0{a=5;}", 0);
        over("A0{^5;}", 5);
        over("A0{?0{^5;}}", 0);
        over("A0{?1{^5;}}", 5);
        over("A0{^7-B();}B0{}", 7);
        over("A0{^7-B();}B0{a=5;}", 7);
        over("A0{^7-B();}B0{^5;}", 2);
        over("A0{^7+B();}B0{^5;^6;}", 12);
        over("A0{^7+B(5);}B1{}", 7);
        over("A0{^B(4,5,6)+1;}B3{@a{a=0;}}", 1);
    }

    // "?E: the block is run if the value is not 0"
    private static void anIfRunsItsBlockUnlessZero() {
        int[] values = {MIN, -1, 0, 1, 2, MAX};
        for (int value : values) {
            StopDesk desk = Checks.started("A0{?a{^1;}^2;}");
            desk.set(0, 0, value);
            desk.go(0, 2);
            checks.due("if with " + value, desk.result(), value == 0 ? 2 : 1);
        }
    }

    // "@E: if the value is not 0, the block is run, and then the statement is to be run again"
    private static void aWhileRunsItsBlockUnlessZero() {
        int[] values = {MIN, -1, 0, 1, 2, MAX};
        for (int value : values) {
            StopDesk desk = Checks.started("A0{@a{a=0;b=b+1;}^b;}");
            desk.set(0, 0, value);
            checks.due("go", desk.go(0, 50), 4);
            checks.due("while with " + value, desk.result(), value == 0 ? 0 : 1);
            checks.due("its points", desk.points(), value == 0 ? 2 : 5);
        }
        puts("A0{a=3;@a{!a;a=a-1;}!9;}", 3, 2, 1, 9);
    }

    // "~: the first block is run; if something is thrown in it (also in calls out of it), that ends there"
    private static void aTryCatchesInItsFirstBlock() {
        puts("A0{~{!1;}{!2;}!3;}", 1, 3);
        puts("A0{~{}{!2;}!3;}", 3);
        puts("A0{~{#7;!1;}{!2;}!3;}", 2, 3);
        puts("A0{~{!1;#7;}{}!3;}", 1, 3);
        puts("A0{~{!1+B();!4;}{!2;}!3;}B0{#7;!5;}", 2, 3);
        puts("A0{~{!1+B();}{!2;}!3;}B0{^C();}C0{!6;#7;}", 6, 2, 3);
        puts("A0{~{?B(){}}{!1;}~{@B(){}}{!2;}~{^B();}{!3;}~{#B();}{!4;}}B0{#7;}", 1, 2, 3, 4);
        puts("A0{~{~{#7;}{!1;}!2;}{!3;}}", 1, 2);
    }

    // "all frames above are gone"
    private static void framesAboveTheTryAreGone() {
        StopDesk desk = Checks.started("A0{~{a=1+(2+B());}{!a;}}B0{b=3*C();}C0{^D();}D0{#7;}");
        desk.go(0, 4);
        checks.due("depth before", desk.depth(), 4);
        checks.due("the throw", desk.go(0, 1), 0);
        checks.due("depth after", desk.depth(), 1);
        checks.due("line", desk.line(0), 2);
        checks.due("line(1)", desk.line(1), -1);
        checks.due("a is as it was", desk.variable(0, 0), 0);
        StopDesk middle = Checks.started("A0{a=5-B();^a;}B0{~{b=3*C();}{^e;}}C0{^D();}D0{#7;}");
        middle.go(0, 5);
        checks.due("depth", middle.depth(), 2);
        checks.due("function", middle.function(0), 1);
        checks.due("line(1)", middle.line(1), 0);
        middle.go(0, 50);
        checks.due("the call below goes on", middle.result(), -2);
    }

    // "e becomes what was thrown, and the second block is run"
    private static void eBecomesWhatWasThrown() {
        int[] values = {MIN, -1, 0, 1, 1001, MAX};
        for (int value : values) {
            StopDesk desk = Checks.started("A0{~{#a;}{!e;}^e;}");
            desk.set(0, 0, value);
            desk.set(0, 4, 55);
            desk.go(0, 50);
            checks.due("put out", desk.output(0), value);
            checks.due("result", desk.result(), value);
        }
        over("A0{e=5;~{a=1;}{}^e;}", 5);
        over("A0{e=5;~{b=B();}{}^e;}B0{e=6;#7;}", 7);
        over("A0{e=5;b=B();^e;}B0{~{#7;}{}}", 5);
    }

    // "A division by 0 throws 1001."
    private static void divisionByZeroThrows1001() {
        int[] values = {MIN, -1, 0, 1, MAX};
        for (int value : values) {
            throwsValue(value, 0, "a/b", 1001);
            gives(value, 1, "a/b", value);
            gives(value, -1, "a/b", -value);
        }
        throwsValue(1, 0, "5-(a/b)", 1001);
        throwsValue(1, 1, "a/(b-1)", 1001);
        gives(0, 5, "a/b", 0);
        over("A0{~{a=1/0;}{^e;}}", 1001);
    }

    // "A call when six frames are there throws 1002"
    private static void aCallWithSixFramesThrows1002() {
        String down = "A0{^B(a);}B1{?a{^1+B(a-1);}}";
        for (int calls = 0; calls <= 7; calls++) {
            StopDesk desk = Checks.started(down);
            desk.set(0, 0, calls);
            boolean fits = calls <= 4;
            checks.due("go with " + calls, desk.go(0, 50), fits ? 4 : 5);
            checks.due("result with " + calls, desk.result(), fits ? calls : 1002);
        }
        StopDesk desk = Checks.started("A0{!A();}");
        for (int depth = 1; depth <= 6; depth++) {
            checks.due("depth", desk.depth(), depth);
            checks.due("the next call", desk.go(1, 1), depth < 6 ? 2 : 5);
        }
        checks.due("result", desk.result(), 1002);
        over("A0{^B(4)+B(4)+B(4);}B1{?a{^1+B(a-1);}}", 12);
    }

    // "(after its arguments were worked out)"
    private static void itThrowsAfterItsArgumentsWereWorkedOut() {
        puts("A0{~{a=B(1);}{!e;}}B1{a=B(a/0);}", 1001);
        puts("A0{~{a=B(5);}{!e;}}B1{a=B(a-1+(4/(a-1)*0));}", 1001);
        puts("A0{~{a=B(6);}{!e;}}B1{a=B(a-1+(4/(a-1)*0));}", 1002);
        // A call among the arguments in the sixth frame is itself one too many, and what it does is not done.
        puts("A0{a=B(1);}B1{?a<5{a=B(a+1);^0;}~{a=B(C(3));}{!e;}}C1{!a;}", 1002);
        puts("A0{a=B(1);}B1{?a<4{a=B(a+1);^0;}~{a=D(C(3));}{!e;}}C1{!a;^7;}D1{!a;a=D(1);}", 3, 7, 1002);
    }

    private static void theThrowOf1002IsInTheFrameOfTheCall() {
        StopDesk desk = Checks.started("A0{a=B();}B0{~{a=B();}{b=8;}}");
        desk.go(0, 10);
        checks.due("depth", desk.depth(), 6);
        desk.go(0, 1);
        checks.due("the sixth frame catches it", desk.depth(), 6);
        checks.due("line", desk.line(0), 3);
        checks.due("e", desk.variable(0, 4), 1002);
        checks.due("not the one below", desk.variable(1, 4), 0);
    }

    // "What is thrown in a second block [...] goes on to the try around it, or to the call in the frame below"
    private static void throwsInSecondBlocksGoOn() {
        dead("A0{~{#1;}{#2;}}", 2);
        over("A0{~{~{#1;}{#2;}^8;}{^e;}}", 2);
        over("A0{~{#1;}{~{#2;}{^e+10;}}}", 12);
        over("A0{~{^B();}{^e+20;}}B0{~{#1;}{#e+1;}}", 22);
        dead("A0{^B();}B0{~{#1;}{#e+1;}}", 2);
        dead("A0{~{~{~{#1;}{#2;}}{#3;}}{#4;}}", 4);
        over("A0{~{#1;}{?1{~{!1;}{}~{#2;}{^e;}}}}", 2);
    }

    // "or in no first block"
    private static void throwsInNoFirstBlockGoOn() {
        dead("A0{~{!1;}{^9;}#5;}", 5);
        dead("A0{#5;~{!1;}{^9;}}", 5);
        over("A0{~{^B();}{^e+1;}}B0{~{!1;}{^9;}#5;}", 6);
        over("A0{~{^B();}{^e+1;}}B0{#5;~{!1;}{^9;}}", 6);
        dead("A0{a=B();#5;}B0{~{^1;}{^9;}}", 5);
        dead("A0{~{}{^9;}#5;}", 5);
        dead("A0{@a<2{~{a=a+1;}{^9;}#5;}}", 5);
    }

    // "if there is none, running is DEAD with it"
    private static void runningIsDeadWithWhatWasThrown() {
        int[] values = {MIN, -1, 0, 1, MAX};
        for (int value : values) {
            StopDesk desk = Checks.started("A0{b=B(a);}B1{#a;}");
            desk.set(0, 0, value);
            checks.due("go", desk.go(0, 50), 5);
            checks.due("state", desk.state(), 3);
            checks.due("result", desk.result(), value);
        }
    }

    // "When the frame of A ends, running is OVER with its value."
    private static void runningIsOverWithTheValueOfA() {
        int[] values = {MIN, -1, 0, 1, MAX};
        for (int value : values) {
            StopDesk desk = Checks.started("A0{^a;}");
            desk.set(0, 0, value);
            checks.due("go", desk.go(0, 50), 4);
            checks.due("state", desk.state(), 2);
            checks.due("result", desk.result(), value);
        }
        over("A0{a=C();^a+4;}C0{^3;}", 7);
        // An A above the first one is a call like others: the sixth catches 1002, and the first ends last.
        over("A0{~{a=A();}{^7;}^a+1;}", 12);
    }

    // "the machine waits there, BEFORE that statement"
    private static void aPointIsBeforeItsStatement() {
        StopDesk desk = Checks.started("A0{a=1;!2;^3;}");
        checks.due("a", desk.variable(0, 0), 0);
        desk.go(1, 1);
        checks.due("a", desk.variable(0, 0), 1);
        checks.due("put out", desk.output(-1), 0);
        desk.go(1, 1);
        checks.due("put out", desk.output(-1), 1);
        checks.due("state", desk.state(), 1);
        desk.go(1, 1);
        checks.due("state", desk.state(), 2);
    }

    // "(The end of a block or a call that is done is no point.)"
    private static void endsOfBlocksAndCallsAreNoPoints() {
        points("A0{}", 0);
        points("A0{a=1;}", 1);
        points("A0{?1{}}", 1);
        points("A0{?1{a=1;}}", 2);
        points("A0{?0{a=1;}}", 1);
        points("A0{~{}{a=1;}}", 1);
        points("A0{~{a=1;}{a=2;}}", 2);
        points("A0{~{#1;}{a=2;}}", 3);
        points("A0{~{#1;}{}}", 2);
        points("A0{a=B()+B();}B0{}", 1);
        points("A0{a=B()+B();}B0{a=1;}", 3);
        points("A0{a=B()+B();}B0{?1{?1{a=1;}}}", 7);
    }

    private static void points(String program, int points) {
        StopDesk desk = Checks.started(program);
        if (points > 0) {
            desk.go(0, 50);
        }
        checks.due("state of " + program, desk.state(), 2);
        checks.due("points of " + program, desk.points(), points);
    }

    // "A POINT is reached whenever a statement is to be run next (a while again and again)"
    private static void aWhileIsAPointAgainAndAgain() {
        for (int times = 0; times < 4; times++) {
            points("A0{@a<" + times + "{a=a+1;}}", 1 + 2 * times);
        }
        StopDesk desk = Checks.started("A0{@1{}}");
        checks.due("an empty block", desk.go(0, 50), 0);
        checks.due("points", desk.points(), 50);
        checks.due("line", desk.line(0), 0);
    }

    // "The line of a frame below is that of the statement in which its call stands."
    private static void theLineOfAFrameBelowIsThatOfItsCall() {
        StopDesk desk = Checks.started("A0{a=1;?B(){@B()<a{a=a-1;!B();}}~{^B();}{}}B0{^1;}");
        desk.go(0, 2);
        checks.due("the if", desk.line(1), 1);
        desk.go(0, 2);
        checks.due("the while", desk.line(1), 2);
        desk.set(1, 0, 2);
        desk.go(0, 3);
        checks.due("the put in its block", desk.line(1), 4);
        checks.due("on top", desk.line(0), 7);
        desk.go(0, 2);
        checks.due("the while again", desk.line(1), 2);
        desk.go(0, 3);
        checks.due("the return in a try", desk.line(1), 6);
        checks.due("on top", desk.line(0), 7);
    }
}
