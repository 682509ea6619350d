/** Promises 1 to 3: a new object, write, and load with all that a program may be. */
public final class TextTest {
    private static final Checks checks = new Checks();

    public static void main(String[] args) {
        aNewObjectHasNothing();
        aNewObjectHasAnEmptyText();
        writeTakesPrintableCharacters();
        writeTakesAtMost150();
        loadAnswersTheLines();
        loadRefusesWhatIsNoProgram();
        functionsAreReadAsTheDocumentSays();
        callsMustFitTheirFunctions();
        numbersHaveOneToThreeDigits();
        blocksAreAtMostSixDeep();
        bracketsAreAtMostFiveDeep();
        thereAreAtMostFortyLines();
        loadTakesTheText();
        loadForgetsTheOlderProgram();
        aRefusedLoadChangesNothingElse();
        checks.end();
    }

    private static void aNewObjectHasNothing() {
        StopDesk desk = new StopDesk();
        checks.due("start", desk.start(), -1);
        checks.due("state", desk.state(), 0);
        checks.due("result", desk.result(), 0);
        checks.due("unstop", desk.unstop(0), -1);
        checks.due("hits", desk.hits(0), -1);
        checks.due("go", desk.go(0, 1), -1);
        checks.due("points", desk.points(), 0);
        checks.due("depth", desk.depth(), 0);
        checks.due("line", desk.line(0), -1);
        checks.due("function", desk.function(0), -1);
        checks.due("variable", desk.variable(0, 0), 0);
        checks.due("set", desk.set(0, 0, 1), false);
        checks.due("value", desk.value(), 0);
        checks.due("output(-1)", desk.output(-1), 0);
        checks.due("output(0)", desk.output(0), 0);
        checks.due("note(-1)", desk.note(-1), 0);
        checks.due("note(0)", desk.note(0), 0);
        checks.due("stop", Checks.stop(desk, 0, "1", 0, false), false);
        checks.due("evaluate", Checks.evaluate(desk, 0, "1"), -1);
    }

    private static void aNewObjectHasAnEmptyText() {
        checks.due("load of an empty text", new StopDesk().load(), -1);
        checks.due("load of what alone was written", Checks.load(new StopDesk(), "A0{}"), 0);
    }

    private static void writeTakesPrintableCharacters() {
        StopDesk desk = new StopDesk();
        checks.due("write(0)", desk.write((char) 0), false);
        checks.due("write(31)", desk.write((char) 31), false);
        checks.due("write(32)", desk.write((char) 32), true);
        checks.due("write(126)", desk.write((char) 126), true);
        checks.due("write(127)", desk.write((char) 127), false);
        checks.due("write(65535)", desk.write((char) 65535), false);
        checks.due("write(65 + 256)", desk.write((char) 321), false);
        desk.load();
        desk.write('A');
        desk.write('\n');
        Checks.type(desk, "0{}");
        checks.due("a refused character is not there", desk.load(), 0);
    }

    private static void writeTakesAtMost150() {
        StopDesk desk = new StopDesk();
        String program = "A0{a=" + Checks.repeat("1+", 71) + "1;}";
        checks.due("its length", program.length(), 150);
        for (int i = 0; i < program.length(); i++) {
            checks.due("write " + i, desk.write(program.charAt(i)), true);
        }
        checks.due("the 151st", desk.write('}'), false);
        checks.due("load", desk.load(), 1);
        checks.due("room again", desk.write('A'), true);
        desk.load();
        for (int i = 0; i < 150; i++) {
            desk.write('x');
        }
        checks.due("a bad one where none has room", desk.write((char) 7), false);
        desk.load();
        checks.due("load after a long text", Checks.load(desk, "A0{}"), 0);
    }

    private static void isProgram(String text, int lines) {
        checks.due("load " + text, Checks.load(new StopDesk(), text), lines);
    }

    private static void isNone(String text) {
        isProgram(text, -1);
    }

    private static void loadAnswersTheLines() {
        isProgram("A0{}", 0);
        isProgram("A0{a=1;}", 1);
        isProgram("A0{!a;^b;#c;}", 3);
        isProgram("A0{?a{b=1;}@c{}~{!1;}{!2;}}", 6);
        isProgram("A0{}B1{^a;}C2{^b;}D3{^c;}", 3);
        isProgram("D0{!1;}A0{!2;}", 2);
        isProgram("A0{f=a=b=c;}", 1);
        isProgram("A0{a=b+c-d*e/f<1=2;}", 1);
    }

    private static void loadRefusesWhatIsNoProgram() {
        String[] none = {
            " ", " A0{}", "A0{} ", "A0 {}", "A0{ }", "A0{a= 1;}", "A0{a=1}", "A0{a=1;;}", "A0{;}", "A0{",
            "A0}", "A0", "A", "0{}", "A0{}}", "A0{{}}", "A0{a}", "A0{a=}", "A0{a=;}", "A0{=1;}", "A0{g=1;}",
            "A0{a=g;}", "A0{A=1;}", "A0{1=1;}", "A0{!;}", "A0{!1}", "A0{^;}", "A0{^1}", "A0{#;}", "A0{#1}",
            "A0{?{}}", "A0{?1}", "A0{?1;}", "A0{?1{};}", "A0{@{}}", "A0{@1}", "A0{~{}}", "A0{~}", "A0{~{}{}{}}",
            "A0{~1{}{}}", "A0{a=1+;}", "A0{a=+1;}", "A0{a=1++1;}", "A0{a=-1;}", "A0{a=1>2;}", "A0{a=1%2;}",
            "A0{a=();}", "A0{a=(1;}", "A0{a=1);}", "A0{a=(1,2);}", "A0{a=1 ;}", "A0{a=ab;}", "A0{a=1a;}",
            "A0{a=a1;}", "A0{a=(1)(2);}", "A0{a=1;", "a=1;", "{}", "A0{}a", "A0{a==1;}", "A0{a=b==1;}", "A0{`1;}",
            "A0{a=`;}", "A0{a=@;}", "A0{a=E();}", "A0{~{}{}", "A0{?1{}", "A0{!!1;}"
        };
        for (String text : none) {
            isNone(text);
        }
    }

    private static void functionsAreReadAsTheDocumentSays() {
        isNone("B0{}");
        isNone("A1{}");
        isNone("A3{}");
        isNone("A4{}");
        isNone("A0{}B4{}");
        isNone("A0{}A0{}");
        isNone("A0{}B1{}B1{}");
        isNone("A0{}B1{}B2{}");
        isNone("A0{}E0{}");
        isNone("A0{}@0{}");
        isNone("A0{}a0{}");
        isNone("A0{}B{}");
        isNone("A0{}B/{}");
        isNone("A0{}B");
        isNone("A0{}B0");
        isNone("A0{}B4");
        isNone("A0{}B0{}C0{}D0{}A0{}");
        isProgram("C3{}B2{}D1{}A0{}", 0);
    }

    private static void callsMustFitTheirFunctions() {
        isProgram("A0{a=A();}", 1);
        isProgram("A0{a=B(1);}B1{}", 1);
        isProgram("B1{}A0{a=B(1);}", 1);
        isProgram("A0{a=D(1,a+2,B());}B0{}D3{}", 1);
        isProgram("A0{a=B(B(B(1)));}B1{}", 1);
        isNone("A0{a=B();}");
        isNone("A0{a=B(1);}B0{}");
        isNone("A0{a=B();}B1{}");
        isNone("A0{a=B(1,2);}B1{}");
        isNone("A0{a=B(1)+B(1,2);}B1{}");
        isNone("A0{a=B(1)+B();}B1{}");
        isNone("A0{a=B(1)+B();}B0{}");
        isNone("A0{a=B(1,2,3,4);}B3{}");
        isNone("A0{a=A(0);}");
        isNone("A0{a=B;}B0{}");
        isNone("A0{a=B(;}B0{}");
        isNone("A0{a=B(1;}B1{}");
        isNone("A0{a=B);}B0{}");
        isNone("A0{a=B(1,);}B1{}");
        isNone("A0{a=B(1,);}B2{}");
        isNone("A0{a=B(,1);}B2{}");
        isNone("A0{a=B(,);}B2{}");
        isNone("A0{a=B(1 2);}B2{}");
        isNone("A0{a=B{};}B0{}");
        isNone("A0{B();}B0{}");
        isNone("A0{}B0{a=C();}");
    }

    private static void numbersHaveOneToThreeDigits() {
        isProgram("A0{!0;!00;!007;!999;}", 4);
        isNone("A0{!1000;}");
        isNone("A0{!0000;}");
        isNone("A0{!1+1234;}");
    }

    private static void blocksAreAtMostSixDeep() {
        isProgram("A0{" + Checks.repeat("?1{", 5) + Checks.repeat("}", 6), 5);
        isNone("A0{" + Checks.repeat("?1{", 6) + Checks.repeat("}", 7));
        isProgram("A0{" + Checks.repeat("@1{", 5) + "!1;" + Checks.repeat("}", 6), 6);
        isNone("A0{" + Checks.repeat("@1{", 6) + Checks.repeat("}", 7));
        isProgram("A0{" + Checks.repeat("~{", 5) + Checks.repeat("}{}", 5) + "}", 5);
        isNone("A0{" + Checks.repeat("~{", 6) + Checks.repeat("}{}", 6) + "}");
        isProgram("A0{" + Checks.repeat("~{}{", 5) + Checks.repeat("}", 6), 5);
        isNone("A0{" + Checks.repeat("~{}{", 6) + Checks.repeat("}", 7));
        isProgram("B0{" + Checks.repeat("?1{", 5) + Checks.repeat("}", 6) + "A0{" + Checks.repeat("?1{", 5)
            + Checks.repeat("}", 6), 10);
        isNone("A0{}B0{" + Checks.repeat("?1{", 6) + Checks.repeat("}", 7));
    }

    private static void bracketsAreAtMostFiveDeep() {
        isProgram("A0{!(((((1)))))+(((((1)))));}", 1);
        isNone("A0{!((((((1))))));}");
        isProgram("A0{!B(B(B(B(B(1)))));}B1{}", 1);
        isNone("A0{!B(B(B(B(B(B(1))))));}B1{}");
        isProgram("A0{!(B((B((1)))));}B1{}", 1);
        isNone("A0{!(B((B(((1))))));}B1{}");
        isProgram("A0{!((((A()))));}", 1);
        isNone("A0{!(((((A())))));}");
        isNone("A0{?((((((1)))))){}}");
        isNone("A0{!B(1,((((((1)))))));}B2{}");
    }

    private static void thereAreAtMostFortyLines() {
        isProgram("A0{" + Checks.repeat("!1;", 40) + "}", 40);
        isNone("A0{" + Checks.repeat("!1;", 41) + "}");
        isProgram("A0{" + Checks.repeat("!1;", 20) + "}B0{" + Checks.repeat("!1;", 20) + "}", 40);
        isNone("A0{" + Checks.repeat("!1;", 20) + "}B0{" + Checks.repeat("!1;", 21) + "}");
        isProgram("A0{?1{" + Checks.repeat("!1;", 39) + "}}", 40);
        isNone("A0{?1{" + Checks.repeat("!1;", 39) + "}?1{}}");
        StopDesk desk = Checks.started("A0{" + Checks.repeat("!1;", 40) + "}");
        checks.due("stop at line 39", desk.stop(39, 0, false), true);
        checks.due("stop at line 40", desk.stop(40, 0, false), false);
        checks.due("go to line 39", desk.go(0, 50), 1);
        checks.due("line", desk.line(0), 39);
    }

    private static void loadTakesTheText() {
        StopDesk desk = new StopDesk();
        Checks.load(desk, "A0{}");
        checks.due("load again", desk.load(), -1);
        checks.due("what an older text would complete", Checks.load(desk, "A0{"), -1);
        checks.due("the rest of a refused text", Checks.load(desk, "}"), -1);
    }

    private static void loadForgetsTheOlderProgram() {
        StopDesk desk = Checks.started("A0{!7;!8;~{#1;}{}!9;}");
        desk.watch(true);
        desk.stop(0, 0, false);
        Checks.stop(desk, 1, "5", 0, true);
        desk.stop(2, 0, false);
        desk.go(0, 50);
        Checks.evaluate(desk, 0, "42");
        checks.due("value", desk.value(), 42);
        checks.due("note(-1)", desk.note(-1), 1);
        checks.due("load", Checks.load(desk, "A0{a=1;~{#2;}{}a=3;a=4;}"), 5);
        checks.due("state", desk.state(), 0);
        checks.due("result", desk.result(), 0);
        checks.due("points", desk.points(), 0);
        checks.due("depth", desk.depth(), 0);
        checks.due("line", desk.line(0), -1);
        checks.due("go", desk.go(0, 1), -1);
        checks.due("value", desk.value(), 0);
        checks.due("output(-1)", desk.output(-1), 0);
        checks.due("output(0)", desk.output(0), 0);
        checks.due("note(-1)", desk.note(-1), 0);
        checks.due("note(0)", desk.note(0), 0);
        checks.due("hits(0)", desk.hits(0), -1);
        checks.due("hits(1)", desk.hits(1), -1);
        checks.due("hits(2)", desk.hits(2), -1);
        desk.start();
        checks.due("go, nothing stops or is watched", desk.go(0, 50), 4);
        Checks.load(desk, "A0{}");
        checks.due("result", desk.result(), 0);
        checks.due("a line of the older program", desk.stop(0, 0, false), false);
    }

    private static void aRefusedLoadChangesNothingElse() {
        StopDesk desk = Checks.started("A0{!7;!8;~{#1;}{}!9;}");
        desk.watch(true);
        Checks.stop(desk, 1, "5", 0, true);
        desk.go(0, 2);
        Checks.evaluate(desk, 0, "42");
        checks.due("load", Checks.load(desk, "A0{!1;"), -1);
        checks.due("state", desk.state(), 1);
        checks.due("points", desk.points(), 2);
        checks.due("line", desk.line(0), 2);
        checks.due("hits", desk.hits(1), 1);
        checks.due("note", desk.note(0), 5);
        checks.due("value", desk.value(), 42);
        checks.due("output", desk.output(-1), 2);
        checks.due("go, throws are watched", desk.go(0, 50), 3);
        checks.due("go", desk.go(0, 50), 4);
        checks.due("output", desk.output(0), 9);
    }
}
