/**
 * The boundary cases that 'Terms' names for the text, programs, expressions and lines: each sentence by a test
 * of its own, at the boundary and beside it. Expressions are looked at in load, in stop and in evaluate.
 */
public final class ProgramEdgesTest {
    private static final Checks checks = new Checks();

    public static void main(String[] args) {
        theTextHasAtMost150Characters();
        charactersHaveCodes32To126();
        atFirstThereAreNone();
        loadMakesTheTextEmpty();
        stopMakesTheTextEmpty();
        evaluateMakesTheTextEmpty();
        noOtherCallTouchesTheText();
        aProgramIsOneOrMoreFunctions();
        aFunctionIsALetterAToD();
        noTwoFunctionsAreTheSame();
        aFunctionHas0To3Parameters();
        functionAMustBeThereWithNoParameters();
        aBlockPerhapsHasNoStatements();
        statementsBeginAsTheTableSays();
        statementsEndAsTheTableSays();
        aVariableIsALetterAToF();
        anExpressionIsATermOrTermsWithOperators();
        aNumberHasOneToThreeDigits();
        aCallNamesAFunctionThatIsThere();
        aCallHasAsManyArgumentsAsParameters();
        commasStandBetweenArguments();
        thereAreNoBlanks();
        nothingStandsBehindTheEnd();
        blocksAreAtMostSixDeep();
        bracketsAreAtMostFiveDeep();
        linesAreNumberedByFirstCharacters();
        aProgramHasAtMost40Lines();
        checks.end();
    }

    private static void lines(String text, int lines) {
        checks.due("load " + text, Checks.load(new StopDesk(), text), lines);
    }

    private static void none(String text) {
        lines(text, -1);
    }

    private static void program(String text, boolean is) {
        checks.due("load " + text, Checks.load(new StopDesk(), text) >= 0, is);
    }

    /** In programs with B0, C1, D2: in a statement, as a condition and aside. */
    private static void expression(String text, boolean is) {
        String functions = "B0{}C1{}D2{}";
        if (text.length() < 130) {
            program("A0{!" + text + ";}" + functions, is);
        }
        StopDesk desk = Checks.started("A0{!1;}" + functions);
        checks.due("stop " + text, Checks.stop(desk, 0, text, 0, false), is);
        checks.due("evaluate " + text, Checks.evaluate(desk, 0, text) != -1, is);
    }

    // "THE TEXT has at most 150 characters"
    private static void theTextHasAtMost150Characters() {
        for (int length = 148; length <= 152; length++) {
            StopDesk desk = new StopDesk();
            String text = "A0{!" + Checks.repeat("1+", (length - 7) / 2) + (length % 2 == 0 ? "11" : "1") + ";}";
            checks.due("its length", text.length(), length);
            for (int i = 0; i < length; i++) {
                checks.due("write " + i + " of " + length, desk.write(text.charAt(i)), i < 150);
            }
            checks.due("load of " + length, desk.load(), length <= 150 ? 1 : -1);
        }
    }

    // "with codes 32 .. 126"
    private static void charactersHaveCodes32To126() {
        StopDesk desk = new StopDesk();
        for (int code = 0; code < 256; code++) {
            checks.due("write " + code, desk.write((char) code), code >= 32 && code <= 126);
        }
        int[] none = {32 + 256, 126 + 256, 0x7fff, 0x8000 + 65, 0xff41, 0xffff};
        for (int code : none) {
            checks.due("write " + code, desk.write((char) code), false);
        }
        for (int i = 126 - 32 + 1; i < 150; i++) {
            checks.due("those refused take no room: " + i, desk.write('x'), true);
        }
        checks.due("the 151st", desk.write('x'), false);
    }

    // "at first none"
    private static void atFirstThereAreNone() {
        checks.due("load", new StopDesk().load(), -1);
        checks.due("load of what is written", Checks.load(new StopDesk(), "A0{}"), 0);
    }

    // "A call that TAKES it uses it and makes it empty, whatever it answers."
    private static void loadMakesTheTextEmpty() {
        StopDesk desk = new StopDesk();
        checks.due("load", Checks.load(desk, "A0{}"), 0);
        checks.due("the same again", desk.load(), -1);
        checks.due("refused", Checks.load(desk, "A0{"), -1);
        checks.due("its rest", Checks.load(desk, "}"), -1);
        checks.due("whole", Checks.load(desk, "A0{}"), 0);
        Checks.type(desk, Checks.repeat("x", 150));
        checks.due("full", desk.write('x'), false);
        desk.load();
        Checks.type(desk, Checks.repeat("x", 150));
        checks.due("full again", desk.write('x'), false);
    }

    private static void stopMakesTheTextEmpty() {
        StopDesk desk = Checks.loaded("A0{!1;!2;}");
        checks.due("taken", Checks.stop(desk, 0, "a", 0, false), true);
        checks.due("empty: no condition", desk.stop(1, 0, false), true);
        desk.start();
        checks.due("which always holds", desk.go(0, 1), 1);
        leftOfStop(desk, 2, 0, "1");
        leftOfStop(desk, -1, 0, "1");
        leftOfStop(desk, 0, -1, "1");
        leftOfStop(desk, 0, 0, "1+");
        leftOfStop(new StopDesk(), 0, 0, "1");
    }

    private static void leftOfStop(StopDesk desk, int line, int ignore, String text) {
        checks.due("refused " + text, Checks.stop(desk, line, text, ignore, false), false);
        checks.due("nothing is left of " + text, Checks.load(desk, "A0{!1;!2;}"), 2);
    }

    private static void evaluateMakesTheTextEmpty() {
        StopDesk desk = new StopDesk();
        leftOfEvaluate(desk, 0, "1", -1);
        leftOfEvaluate(desk, 0, "1", -1);
        desk.start();
        leftOfEvaluate(desk, 0, "1", 0);
        desk.start();
        leftOfEvaluate(desk, 1, "1", -1);
        desk.start();
        leftOfEvaluate(desk, 0, "1+", -1);
        desk.start();
        leftOfEvaluate(desk, 0, "1/0", -2);
        desk.start();
        leftOfEvaluate(desk, 0, "B()", -3);
    }

    private static void leftOfEvaluate(StopDesk desk, int frame, String text, int answer) {
        checks.due("evaluate " + text, Checks.evaluate(desk, frame, text), answer);
        checks.due("nothing is left of " + text, Checks.load(desk, "A0{!1;}B0{@1{}}"), 2);
    }

    private static void noOtherCallTouchesTheText() {
        StopDesk desk = Checks.started("A0{!1;!2;!3;}");
        desk.stop(1, 0, false);
        Checks.type(desk, "a+4");
        desk.start();
        desk.go(0, 1);
        desk.go(9, 9);
        desk.unstop(1);
        desk.unstop(1);
        desk.watch(true);
        desk.set(0, 0, 3);
        desk.set(0, 6, 3);
        Checks.seen(desk);
        desk.write('\n');
        Checks.type(desk, "0");
        checks.due("evaluate a+40", desk.evaluate(0), 0);
        checks.due("value", desk.value(), 43);
    }

    // "A PROGRAM is one or more FUNCTIONS"
    private static void aProgramIsOneOrMoreFunctions() {
        checks.due("none", new StopDesk().load(), -1);
        lines("A0{!1;}", 1);
        lines("A0{!1;}B0{!1;}", 2);
        lines("A0{!1;}B0{!1;}C0{!1;}", 3);
        lines("A0{!1;}B0{!1;}C0{!1;}D0{!1;}", 4);
        none("A0{!1;}B0{!1;}C0{!1;}D0{!1;}A0{!1;}");
        none("A0{!1;}B0{!1;}C0{!1;}D0{!1;}E0{!1;}");
    }

    // "a function is a letter A .. D"
    private static void aFunctionIsALetterAToD() {
        for (char c = 32; c < 127; c++) {
            program("A0{}" + c + "0{}", c >= 'B' && c <= 'D');
            program(c + "0{}A0{}", c >= 'B' && c <= 'D');
        }
    }

    // "(no two the same)"
    private static void noTwoFunctionsAreTheSame() {
        for (char first = 'A'; first <= 'D'; first++) {
            for (char second = 'A'; second <= 'D'; second++) {
                String both = first + "0{}" + second + "0{}";
                program(first == 'A' || second == 'A' ? both : "A0{}" + both, first != second);
            }
        }
        none("A0{}B1{}C0{}B2{}");
    }

    // "a digit 0 .. 3, which is how many PARAMETERS it has"
    private static void aFunctionHas0To3Parameters() {
        for (char c = 32; c < 127; c++) {
            program("A0{}B" + c + "{}", c >= '0' && c <= '3');
            none("A0{}B" + c);
        }
        none("A0{}B{}");
        none("A0{}B00{}");
        none("A0{}B-1{}");
    }

    // "Function A must be there, with no parameters."
    private static void functionAMustBeThereWithNoParameters() {
        none("B0{}");
        none("B0{}C0{}D0{}");
        lines("B0{}C0{}D0{}A0{}", 0);
        none("A1{}");
        none("A2{}");
        none("A3{}");
        none("B0{}A1{}");
    }

    // "A BLOCK is {, statements, perhaps none, and }."
    private static void aBlockPerhapsHasNoStatements() {
        lines("A0{}", 0);
        lines("A0{!1;}", 1);
        lines("A0{?1{}}", 1);
        lines("A0{@0{}}", 1);
        lines("A0{~{}{}}", 1);
        lines("A0{~{!1;}{}}", 2);
        lines("A0{~{}{!1;}}", 2);
        none("A0");
        none("A0{");
        none("A0}");
        none("A0{}}");
        none("A0{{}}");
        none("A0{!1;");
        none("A0!1;}");
        none("A0{?1{}");
        none("A0{~{}{}");
    }

    // "A STATEMENT is one of these"
    private static void statementsBeginAsTheTableSays() {
        for (char c = 32; c < 127; c++) {
            program("A0{" + c + "1;}", c == '!' || c == '^' || c == '#');
            program("A0{" + c + "1{}}", c == '?' || c == '@');
            program("A0{" + c + "{}{}}", c == '~');
            program("A0{" + c + "=1;}", c >= 'a' && c <= 'f');
            none("A0{" + c + "}");
        }
    }

    private static void statementsEndAsTheTableSays() {
        for (char c = 32; c < 127; c++) {
            program("A0{a=b" + c + "}", c == ';');
            program("A0{!b" + c + "}", c == ';');
            program("A0{^b" + c + "}", c == ';');
            program("A0{#b" + c + "}", c == ';');
            program("A0{?b" + c + "}}", c == '{');
            program("A0{@b" + c + "}}", c == '{');
            program("A0{~{}" + c + "}}", c == '{');
        }
        none("A0{?b}");
        none("A0{@b}");
        none("A0{~}");
        none("A0{~{}}");
        none("A0{~{}{}{}}");
        none("A0{?b{}{}}");
        none("A0{?b{};}");
        none("A0{a=b;;}");
    }

    // "V a variable (a letter a .. f)"
    private static void aVariableIsALetterAToF() {
        for (char c = 32; c < 127; c++) {
            program("A0{" + c + "=1;}", c >= 'a' && c <= 'f');
            boolean digit = c >= '0' && c <= '9';
            expression(String.valueOf(c), digit || c >= 'a' && c <= 'f');
        }
        none("A0{ab=1;}");
        expression("ab", false);
        expression("a1", false);
        expression("1a", false);
    }

    // "An EXPRESSION is a term, or terms with operators + - * / < = between them."
    private static void anExpressionIsATermOrTermsWithOperators() {
        for (char c = 32; c < 127; c++) {
            boolean operator = "+-*/<=".indexOf(c) >= 0;
            expression("a" + c + "b", operator);
            expression("a" + c, false);
            expression(c + "a" + c, false);
            expression("a" + c + c + "b", false);
        }
        expression("a+b-c*d/e<f=a", true);
        expression("(a)", true);
        expression("()", false);
        expression("(a", false);
        expression("a)", false);
        expression("(a)(b)", false);
        expression("(a+)", false);
        expression("(a,b)", false);
        StopDesk desk = Checks.started("A0{!1;}");
        checks.due("evaluate of an empty text", desk.evaluate(0), -1);
        checks.due("stop with an empty text", desk.stop(0, 0, false), true);
    }

    // "a NUMBER (one to three digits)"
    private static void aNumberHasOneToThreeDigits() {
        String[] numbers = {"0", "9", "10", "99", "100", "999", "000", "007", "070"};
        for (String number : numbers) {
            expression(number, true);
            StopDesk desk = Checks.started("A0{^" + number + ";}");
            Checks.evaluate(desk, 0, number);
            checks.due("value of " + number, desk.value(), Integer.parseInt(number));
            desk.go(0, 1);
            checks.due("result " + number, desk.result(), Integer.parseInt(number));
        }
        expression("1000", false);
        expression("0000", false);
        expression("0001", false);
        expression("99999", false);
        expression("1+1000", false);
        expression("1000+1", false);
        expression("(1000)", false);
        expression("C(1000)", false);
    }

    // "that function of the program [...] (it must be there; it may stand later)"
    private static void aCallNamesAFunctionThatIsThere() {
        for (char c = 'A'; c <= 'F'; c++) {
            program("A0{!" + c + "();}", c == 'A');
            program("A0{!" + c + "();}B0{}", c <= 'B');
            program("B0{}A0{!" + c + "();}", c <= 'B');
            program("A0{!" + c + "();}B0{}D0{}", c <= 'B' || c == 'D');
            program("A0{}B0{}C0{}D0{!" + c + "();}", c <= 'D');
        }
        expression("A()", true);
        expression("B()", true);
        expression("E()", false);
        expression("a()", false);
        expression("B", false);
        expression("B(", false);
        expression("B)", false);
    }

    // "as many expressions, with commas between them, as that function of the program has parameters"
    private static void aCallHasAsManyArgumentsAsParameters() {
        String[] arguments = {"", "1", "1,2", "1,2,3", "1,2,3,4", "1,2,3,4,5"};
        for (int parameters = 0; parameters <= 3; parameters++) {
            for (int count = 0; count < arguments.length; count++) {
                String call = "B(" + arguments[count] + ")";
                boolean fits = count == parameters;
                program("A0{!" + call + ";}B" + parameters + "{}", fits);
                program("B" + parameters + "{}A0{!" + call + ";}", fits);
                program("A0{}B" + parameters + "{!" + call + ";}", fits);
                StopDesk desk = Checks.started("A0{!1;}B" + parameters + "{}");
                checks.due("stop " + call, Checks.stop(desk, 0, call, 0, false), fits);
                checks.due("evaluate " + call, Checks.evaluate(desk, 0, call), fits ? 0 : -1);
            }
        }
        none("A0{!B(1)+B();}B1{}");
        none("A0{!B()+B(1);}B1{}");
        none("A0{!B(1);}B1{!B();}");
        none("A0{!B(1);}B1{!B(1,2);}");
        lines("A0{!B(1)+B(2);}B1{!B(3);}", 2);
        none("A0{!A(1);}");
    }

    private static void commasStandBetweenArguments() {
        expression("D(1,2)", true);
        for (char c = 32; c < 127; c++) {
            expression("D(a" + c + "b)", c == ',');
        }
        expression("D(1,)", false);
        expression("D(,1)", false);
        expression("D(,)", false);
        expression("D(1,,2)", false);
        expression("D(1,2,)", false);
        expression("D(1,2", false);
        expression("C(1,)", false);
        expression("B(,)", false);
    }

    // "There are no blanks."
    private static void thereAreNoBlanks() {
        String whole = "A0{a=B(1,(c));!1+2;?a{^3;}@a{#4;}~{}{}}B2{}";
        lines(whole, 7);
        for (int i = 0; i <= whole.length(); i++) {
            none(whole.substring(0, i) + " " + whole.substring(i));
        }
        String expression = "D(a,(10-B()))";
        expression(expression, true);
        for (int i = 0; i <= expression.length(); i++) {
            expression(expression.substring(0, i) + " " + expression.substring(i), false);
        }
    }

    private static void nothingStandsBehindTheEnd() {
        String whole = "B1{^a;}A0{!B(1);}";
        lines(whole, 2);
        for (int i = 0; i < whole.length(); i++) {
            program(whole.substring(0, i), false);
        }
        for (char c = 32; c < 127; c++) {
            none(whole + c);
            expression("(a)" + c, false);
        }
    }

    // "Blocks are at most 6 deep (that of a function is one deep)"
    private static void blocksAreAtMostSixDeep() {
        String[][] nests = {{"?1{", "}"}, {"@1{", "}"}, {"~{", "}{}"}, {"~{}{", "}"}};
        for (String[] nest : nests) {
            for (int inner = 0; inner <= 8; inner++) {
                String block = "{" + Checks.repeat(nest[0], inner) + Checks.repeat(nest[1], inner) + "}";
                lines("A0" + block, inner <= 5 ? inner : -1);
                lines("A0{}B0" + block, inner <= 5 ? inner : -1);
            }
        }
        String five = Checks.repeat("?1{", 5) + Checks.repeat("}", 5);
        lines("A0{" + five + five + "}B0{" + five + "}", 15);
        String four = Checks.repeat("?1{", 4) + Checks.repeat("}", 4);
        lines("A0{~{" + four + "}{" + four + "}}", 9);
        none("A0{~{" + four + "}{" + five + "}}");
        none("A0{~{" + five + "}{" + four + "}}");
        lines("A0{" + Checks.repeat("?1{", 5) + "!1;" + Checks.repeat("}", 6), 6);
    }

    // "brackets (those of calls too) at most 5 deep in an expression"
    private static void bracketsAreAtMostFiveDeep() {
        String[][] nests = {{"(", ")"}, {"C(", ")"}, {"D(1,", ")"}, {"D(", ",1)"}, {"1+(", ")+1"}};
        for (String[] nest : nests) {
            for (int deep = 0; deep <= 8; deep++) {
                String nested = Checks.repeat(nest[0], deep) + "a" + Checks.repeat(nest[1], deep);
                expression(nested, deep <= 5);
                expression(Checks.repeat(nest[0], deep) + "B()" + Checks.repeat(nest[1], deep), deep <= 4);
                expression("C(" + nested + ")", deep <= 4);
                expression("(" + nested + ")", deep <= 4);
            }
        }
        String five = "(((((a)))))";
        expression(five + "+" + five, true);
        expression("((((a))))+(" + five + ")", false);
        expression("D((((a))),((((a)))))", true);
        expression("D(((((a)))),((((a)))))", true);
        expression("D(((((a)))),(((((a))))))", false);
        lines("A0{a=" + five + ";!" + five + ";?" + five + "{@" + five + "{#" + five + ";}}^" + five + ";}", 6);
        none("A0{a=(" + five + ");}");
        none("A0{?(" + five + "){}}");
        none("A0{@(" + five + "){}}");
    }

    // "LINES are the statements, numbered 0, 1, .. in the order of their first characters"
    private static void linesAreNumberedByFirstCharacters() {
        StopDesk desk = Checks.started("B0{^0;}A0{~{?1{!B();}#1;}{@a=0{a=1;}}!3;}");
        int[] lines = {1, 2, 3, 0, 4, 5, 6, 5, 7};
        for (int i = 0; i < lines.length; i++) {
            checks.due("line at point " + i, desk.line(0), lines[i]);
            desk.go(1, 1);
        }
        checks.due("over", desk.state(), 2);
    }

    // "a program has at most 40"
    private static void aProgramHasAtMost40Lines() {
        for (int count = 38; count <= 43; count++) {
            int due = count <= 40 ? count : -1;
            lines("A0{" + Checks.repeat("!1;", count) + "}", due);
            lines("A0{?1{" + Checks.repeat("!1;", count - 1) + "}}", due);
            lines("A0{" + Checks.repeat("!1;", count - 1) + "?1{}}", due);
            lines("A0{" + Checks.repeat("!1;", count - 1) + "~{}{}}", due);
            lines("A0{~{" + Checks.repeat("!1;", 20) + "}{" + Checks.repeat("!1;", count - 21) + "}}", due);
            lines("A0{" + Checks.repeat("!1;", 20) + "}B0{" + Checks.repeat("!1;", count - 20) + "}", due);
        }
        StopDesk desk = Checks.loaded("A0{" + Checks.repeat("!1;", 40) + "}");
        checks.due("stop(39)", desk.stop(39, 0, false), true);
        checks.due("stop(40)", desk.stop(40, 0, false), false);
        desk.start();
        checks.due("go", desk.go(0, 50), 1);
        checks.due("line", desk.line(0), 39);
        checks.due("hits(39)", desk.hits(39), 1);
        checks.due("hits(40)", desk.hits(40), -1);
    }
}
